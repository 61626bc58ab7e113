/-! the code words, printed by wip/gen/mkchk.py -/
theorem nb_cw0 : nb_cwP 0 := fun X y cc rt h1 h2 h3 h4 => by cases h1; cases h2; cases h3; cases h4; rfl
theorem nb_cw1 : nb_cwP 1 := fun X y cc rt h1 h2 h3 h4 => by cases h1; cases h2; cases h3; cases h4; rfl
theorem nb_cw2 : nb_cwP 2 := fun X y cc rt h1 h2 h3 h4 => by cases h1; cases h2; cases h3; cases h4; rfl
theorem nb_cw3 : nb_cwP 3 := fun X y cc rt h1 h2 h3 h4 => by cases h1; cases h2; cases h3; cases h4; rfl
theorem nb_cw4 : nb_cwP 4 := fun X y cc rt h1 h2 h3 h4 => by cases h1; cases h2; cases h3; cases h4; rfl
theorem nb_cw5 : nb_cwP 5 := fun X y cc rt h1 h2 h3 h4 => by cases h1; cases h2; cases h3; cases h4; rfl
theorem nb_cw6 : nb_cwP 6 := fun X y cc rt h1 h2 h3 h4 => by cases h1; cases h2; cases h3; cases h4; rfl
theorem nb_cw7 : nb_cwP 7 := fun X y cc rt h1 h2 h3 h4 => by cases h1; cases h2; cases h3; cases h4; rfl
theorem nb_cw8 : nb_cwP 8 := fun X y cc rt h1 h2 h3 h4 => by cases h1; cases h2; cases h3; cases h4; rfl
theorem nb_cw9 : nb_cwP 9 := fun X y cc rt h1 h2 h3 h4 => by cases h1; cases h2; cases h3; cases h4; rfl
theorem nb_cw10 : nb_cwP 10 := fun X y cc rt h1 h2 h3 h4 => by cases h1; cases h2; cases h3; cases h4; rfl
theorem nb_cw11 : nb_cwP 11 := fun X y cc rt h1 h2 h3 h4 => by cases h1; cases h2; cases h3; cases h4; rfl
theorem nb_cw12 : nb_cwP 12 := fun X y cc rt h1 h2 h3 h4 => by cases h1; cases h2; cases h3; cases h4; rfl
theorem nb_cw13 : nb_cwP 13 := fun X y cc rt h1 h2 h3 h4 => by cases h1; cases h2; cases h3; cases h4; rfl
theorem nb_cw14 : nb_cwP 14 := fun X y cc rt h1 h2 h3 h4 => by cases h1; cases h2; cases h3; cases h4; rfl
theorem nb_cw15 : nb_cwP 15 := fun X y cc rt h1 h2 h3 h4 => by cases h1; cases h2; cases h3; cases h4; rfl
theorem nb_cw16 : nb_cwP 16 := fun X y cc rt h1 h2 h3 h4 => by cases h1; cases h2; cases h3; cases h4; rfl
theorem nb_cw17 : nb_cwP 17 := fun X y cc rt h1 h2 h3 h4 => by cases h1; cases h2; cases h3; cases h4; rfl
theorem nb_cw18 : nb_cwP 18 := fun X y cc rt h1 h2 h3 h4 => by cases h1; cases h2; cases h3; cases h4; rfl
theorem nb_cw19 : nb_cwP 19 := fun X y cc rt h1 h2 h3 h4 => by cases h1; cases h2; cases h3; cases h4; rfl
theorem nb_cw20 : nb_cwP 20 := fun X y cc rt h1 h2 h3 h4 => by cases h1; cases h2; cases h3; cases h4; rfl
theorem nb_cw21 : nb_cwP 21 := fun X y cc rt h1 h2 h3 h4 => by cases h1; cases h2; cases h3; cases h4; rfl
theorem nb_cw22 : nb_cwP 22 := fun X y cc rt h1 h2 h3 h4 => by cases h1; cases h2; cases h3; cases h4; rfl
theorem nb_cw23 : nb_cwP 23 := fun X y cc rt h1 h2 h3 h4 => by cases h1; cases h2; cases h3; cases h4; rfl
theorem nb_cw24 : nb_cwP 24 := fun X y cc rt h1 h2 h3 h4 => by cases h1; cases h2; cases h3; cases h4; rfl
theorem nb_cw25 : nb_cwP 25 := fun X y cc rt h1 h2 h3 h4 => by cases h1; cases h2; cases h3; cases h4; rfl
theorem nb_cw26 : nb_cwP 26 := fun X y cc rt h1 h2 h3 h4 => by cases h1; cases h2; cases h3; cases h4; rfl
theorem nb_cw27 : nb_cwP 27 := fun X y cc rt h1 h2 h3 h4 => by cases h1; cases h2; cases h3; cases h4; rfl
theorem nb_cw28 : nb_cwP 28 := fun X y cc rt h1 h2 h3 h4 => by cases h1; cases h2; cases h3; cases h4; rfl
theorem nb_cw29 : nb_cwP 29 := fun X y cc rt h1 h2 h3 h4 => by cases h1; cases h2; cases h3; cases h4; rfl
theorem nb_cw30 : nb_cwP 30 := fun X y cc rt h1 h2 h3 h4 => by cases h1; cases h2; cases h3; cases h4; rfl
theorem nb_cw31 : nb_cwP 31 := fun X y cc rt h1 h2 h3 h4 => by cases h1; cases h2; cases h3; cases h4; rfl
theorem nb_cw32 : nb_cwP 32 := fun X y cc rt h1 h2 h3 h4 => by cases h1; cases h2; cases h3; cases h4; rfl
theorem nb_cw33 : nb_cwP 33 := fun X y cc rt h1 h2 h3 h4 => by cases h1; cases h2; cases h3; cases h4; rfl
theorem nb_cw34 : nb_cwP 34 := fun X y cc rt h1 h2 h3 h4 => by cases h1; cases h2; cases h3; cases h4; rfl
theorem nb_cw35 : nb_cwP 35 := fun X y cc rt h1 h2 h3 h4 => by cases h1; cases h2; cases h3; cases h4; rfl
theorem nb_cw36 : nb_cwP 36 := fun X y cc rt h1 h2 h3 h4 => by cases h1; cases h2; cases h3; cases h4; rfl
theorem nb_cw37 : nb_cwP 37 := fun X y cc rt h1 h2 h3 h4 => by cases h1; cases h2; cases h3; cases h4; rfl
theorem nb_cw38 : nb_cwP 38 := fun X y cc rt h1 h2 h3 h4 => by cases h1; cases h2; cases h3; cases h4; rfl
theorem nb_cw39 : nb_cwP 39 := fun X y cc rt h1 h2 h3 h4 => by cases h1; cases h2; cases h3; cases h4; rfl
theorem nb_cw40 : nb_cwP 40 := fun X y cc rt h1 h2 h3 h4 => by cases h1; cases h2; cases h3; cases h4; rfl
theorem nb_cw41 : nb_cwP 41 := fun X y cc rt h1 h2 h3 h4 => by cases h1; cases h2; cases h3; cases h4; rfl
theorem nb_cw42 : nb_cwP 42 := fun X y cc rt h1 h2 h3 h4 => by cases h1; cases h2; cases h3; cases h4; rfl
theorem nb_cw43 : nb_cwP 43 := fun X y cc rt h1 h2 h3 h4 => by cases h1; cases h2; cases h3; cases h4; rfl
theorem nb_cw44 : nb_cwP 44 := fun X y cc rt h1 h2 h3 h4 => by cases h1; cases h2; cases h3; cases h4; rfl
theorem nb_cw45 : nb_cwP 45 := fun X y cc rt h1 h2 h3 h4 => by cases h1; cases h2; cases h3; cases h4; rfl
theorem nb_cw46 : nb_cwP 46 := fun X y cc rt h1 h2 h3 h4 => by cases h1; cases h2; cases h3; cases h4; rfl
theorem nb_cw47 : nb_cwP 47 := fun X y cc rt h1 h2 h3 h4 => by cases h1; cases h2; cases h3; cases h4; rfl
theorem nb_cw48 : nb_cwP 48 := fun X y cc rt h1 h2 h3 h4 => by cases h1; cases h2; cases h3; cases h4; rfl
theorem nb_cw49 : nb_cwP 49 := fun X y cc rt h1 h2 h3 h4 => by cases h1; cases h2; cases h3; cases h4; rfl
theorem nb_cw50 : nb_cwP 50 := fun X y cc rt h1 h2 h3 h4 => by cases h1; cases h2; cases h3; cases h4; rfl
theorem nb_cw51 : nb_cwP 51 := fun X y cc rt h1 h2 h3 h4 => by cases h1; cases h2; cases h3; cases h4; rfl
theorem nb_cw52 : nb_cwP 52 := fun X y cc rt h1 h2 h3 h4 => by cases h1; cases h2; cases h3; cases h4; rfl
theorem nb_cw53 : nb_cwP 53 := fun X y cc rt h1 h2 h3 h4 => by cases h1; cases h2; cases h3; cases h4; rfl
theorem nb_cw54 : nb_cwP 54 := fun X y cc rt h1 h2 h3 h4 => by cases h1; cases h2; cases h3; cases h4; rfl
theorem nb_cw55 : nb_cwP 55 := fun X y cc rt h1 h2 h3 h4 => by cases h1; cases h2; cases h3; cases h4; rfl
theorem nb_cw56 : nb_cwP 56 := fun X y cc rt h1 h2 h3 h4 => by cases h1; cases h2; cases h3; cases h4; rfl
theorem nb_cw57 : nb_cwP 57 := fun X y cc rt h1 h2 h3 h4 => by cases h1; cases h2; cases h3; cases h4; rfl
theorem nb_cw58 : nb_cwP 58 := fun X y cc rt h1 h2 h3 h4 => by cases h1; cases h2; cases h3; cases h4; rfl
theorem nb_cw59 : nb_cwP 59 := fun X y cc rt h1 h2 h3 h4 => by cases h1; cases h2; cases h3; cases h4; rfl
theorem nb_cw60 : nb_cwP 60 := fun X y cc rt h1 h2 h3 h4 => by cases h1; cases h2; cases h3; cases h4; rfl
theorem nb_cw61 : nb_cwP 61 := fun X y cc rt h1 h2 h3 h4 => by cases h1; cases h2; cases h3; cases h4; rfl
theorem nb_cw62 : nb_cwP 62 := fun X y cc rt h1 h2 h3 h4 => by cases h1; cases h2; cases h3; cases h4; rfl
theorem nb_cw63 : nb_cwP 63 := fun X y cc rt h1 h2 h3 h4 => by cases h1; cases h2; cases h3; cases h4; rfl
theorem nb_cw64 : nb_cwP 64 := fun X y cc rt h1 h2 h3 h4 => by cases h1; cases h2; cases h3; cases h4; rfl
theorem nb_cw65 : nb_cwP 65 := fun X y cc rt h1 h2 h3 h4 => by cases h1; cases h2; cases h3; cases h4; rfl
theorem nb_cw66 : nb_cwP 66 := fun X y cc rt h1 h2 h3 h4 => by cases h1; cases h2; cases h3; cases h4; rfl
theorem nb_cw67 : nb_cwP 67 := fun X y cc rt h1 h2 h3 h4 => by cases h1; cases h2; cases h3; cases h4; rfl
theorem nb_cw68 : nb_cwP 68 := fun X y cc rt h1 h2 h3 h4 => by cases h1; cases h2; cases h3; cases h4; rfl
theorem nb_cw69 : nb_cwP 69 := fun X y cc rt h1 h2 h3 h4 => by cases h1; cases h2; cases h3; cases h4; rfl
theorem nb_cw70 : nb_cwP 70 := fun X y cc rt h1 h2 h3 h4 => by cases h1; cases h2; cases h3; cases h4; rfl
theorem nb_cw71 : nb_cwP 71 := fun X y cc rt h1 h2 h3 h4 => by cases h1; cases h2; cases h3; cases h4; rfl
theorem nb_cw72 : nb_cwP 72 := fun X y cc rt h1 h2 h3 h4 => by cases h1; cases h2; cases h3; cases h4; rfl
theorem nb_cw73 : nb_cwP 73 := fun X y cc rt h1 h2 h3 h4 => by cases h1; cases h2; cases h3; cases h4; rfl
theorem nb_cw74 : nb_cwP 74 := fun X y cc rt h1 h2 h3 h4 => by cases h1; cases h2; cases h3; cases h4; rfl
theorem nb_cw75 : nb_cwP 75 := fun X y cc rt h1 h2 h3 h4 => by cases h1; cases h2; cases h3; cases h4; rfl
theorem nb_cw76 : nb_cwP 76 := fun X y cc rt h1 h2 h3 h4 => by cases h1; cases h2; cases h3; cases h4; rfl
theorem nb_cw77 : nb_cwP 77 := fun X y cc rt h1 h2 h3 h4 => by cases h1; cases h2; cases h3; cases h4; rfl
theorem nb_cw78 : nb_cwP 78 := fun X y cc rt h1 h2 h3 h4 => by cases h1; cases h2; cases h3; cases h4; rfl
theorem nb_cw79 : nb_cwP 79 := fun X y cc rt h1 h2 h3 h4 => by cases h1; cases h2; cases h3; cases h4; rfl
theorem nb_cw80 : nb_cwP 80 := fun X y cc rt h1 h2 h3 h4 => by cases h1; cases h2; cases h3; cases h4; rfl
theorem nb_cw81 : nb_cwP 81 := fun X y cc rt h1 h2 h3 h4 => by cases h1; cases h2; cases h3; cases h4; rfl
theorem nb_cw82 : nb_cwP 82 := fun X y cc rt h1 h2 h3 h4 => by cases h1; cases h2; cases h3; cases h4; rfl
theorem nb_cw83 : nb_cwP 83 := fun X y cc rt h1 h2 h3 h4 => by cases h1; cases h2; cases h3; cases h4; rfl
theorem nb_cw84 : nb_cwP 84 := fun X y cc rt h1 h2 h3 h4 => by cases h1; cases h2; cases h3; cases h4; rfl
theorem nb_cw85 : nb_cwP 85 := fun X y cc rt h1 h2 h3 h4 => by cases h1; cases h2; cases h3; cases h4; rfl
theorem nb_cw86 : nb_cwP 86 := fun X y cc rt h1 h2 h3 h4 => by cases h1; cases h2; cases h3; cases h4; rfl
theorem nb_cw87 : nb_cwP 87 := fun X y cc rt h1 h2 h3 h4 => by cases h1; cases h2; cases h3; cases h4; rfl
theorem nb_cw88 : nb_cwP 88 := fun X y cc rt h1 h2 h3 h4 => by cases h1; cases h2; cases h3; cases h4; rfl
theorem nb_cw89 : nb_cwP 89 := fun X y cc rt h1 h2 h3 h4 => by cases h1; cases h2; cases h3; cases h4; rfl
theorem nb_cw90 : nb_cwP 90 := fun X y cc rt h1 h2 h3 h4 => by cases h1; cases h2; cases h3; cases h4; rfl
theorem nb_cw91 : nb_cwP 91 := fun X y cc rt h1 h2 h3 h4 => by cases h1; cases h2; cases h3; cases h4; rfl
theorem nb_cw92 : nb_cwP 92 := fun X y cc rt h1 h2 h3 h4 => by cases h1; cases h2; cases h3; cases h4; rfl
theorem nb_cw93 : nb_cwP 93 := fun X y cc rt h1 h2 h3 h4 => by cases h1; cases h2; cases h3; cases h4; rfl
theorem nb_cw94 : nb_cwP 94 := fun X y cc rt h1 h2 h3 h4 => by cases h1; cases h2; cases h3; cases h4; rfl
theorem nb_cw95 : nb_cwP 95 := fun X y cc rt h1 h2 h3 h4 => by cases h1; cases h2; cases h3; cases h4; rfl
theorem nb_cw96 : nb_cwP 96 := fun X y cc rt h1 h2 h3 h4 => by cases h1; cases h2; cases h3; cases h4; rfl
theorem nb_cw97 : nb_cwP 97 := fun X y cc rt h1 h2 h3 h4 => by cases h1; cases h2; cases h3; cases h4; rfl
theorem nb_cw98 : nb_cwP 98 := fun X y cc rt h1 h2 h3 h4 => by cases h1; cases h2; cases h3; cases h4; rfl
theorem nb_cw99 : nb_cwP 99 := fun X y cc rt h1 h2 h3 h4 => by cases h1; cases h2; cases h3; cases h4; rfl
theorem nb_cw100 : nb_cwP 100 := fun X y cc rt h1 h2 h3 h4 => by cases h1; cases h2; cases h3; cases h4; rfl
theorem nb_cw101 : nb_cwP 101 := fun X y cc rt h1 h2 h3 h4 => by cases h1; cases h2; cases h3; cases h4; rfl
theorem nb_cw102 : nb_cwP 102 := fun X y cc rt h1 h2 h3 h4 => by cases h1; cases h2; cases h3; cases h4; rfl
theorem nb_cw103 : nb_cwP 103 := fun X y cc rt h1 h2 h3 h4 => by cases h1; cases h2; cases h3; cases h4; rfl
theorem nb_cw104 : nb_cwP 104 := fun X y cc rt h1 h2 h3 h4 => by cases h1; cases h2; cases h3; cases h4; rfl
theorem nb_cw105 : nb_cwP 105 := fun X y cc rt h1 h2 h3 h4 => by cases h1; cases h2; cases h3; cases h4; rfl
theorem nb_cw106 : nb_cwP 106 := fun X y cc rt h1 h2 h3 h4 => by cases h1; cases h2; cases h3; cases h4; rfl
theorem nb_cw107 : nb_cwP 107 := fun X y cc rt h1 h2 h3 h4 => by cases h1; cases h2; cases h3; cases h4; rfl
theorem nb_cw108 : nb_cwP 108 := fun X y cc rt h1 h2 h3 h4 => by cases h1; cases h2; cases h3; cases h4; rfl
theorem nb_cw109 : nb_cwP 109 := fun X y cc rt h1 h2 h3 h4 => by cases h1; cases h2; cases h3; cases h4; rfl
theorem nb_cw110 : nb_cwP 110 := fun X y cc rt h1 h2 h3 h4 => by cases h1; cases h2; cases h3; cases h4; rfl
theorem nb_cw111 : nb_cwP 111 := fun X y cc rt h1 h2 h3 h4 => by cases h1; cases h2; cases h3; cases h4; rfl
theorem nb_cw112 : nb_cwP 112 := fun X y cc rt h1 h2 h3 h4 => by cases h1; cases h2; cases h3; cases h4; rfl
theorem nb_cw113 : nb_cwP 113 := fun X y cc rt h1 h2 h3 h4 => by cases h1; cases h2; cases h3; cases h4; rfl
theorem nb_cw114 : nb_cwP 114 := fun X y cc rt h1 h2 h3 h4 => by cases h1; cases h2; cases h3; cases h4; rfl
theorem nb_cw115 : nb_cwP 115 := fun X y cc rt h1 h2 h3 h4 => by cases h1; cases h2; cases h3; cases h4; rfl
theorem nb_cw116 : nb_cwP 116 := fun X y cc rt h1 h2 h3 h4 => by cases h1; cases h2; cases h3; cases h4; rfl
theorem nb_cw117 : nb_cwP 117 := fun X y cc rt h1 h2 h3 h4 => by cases h1; cases h2; cases h3; cases h4; rfl
theorem nb_cw118 : nb_cwP 118 := fun X y cc rt h1 h2 h3 h4 => by cases h1; cases h2; cases h3; cases h4; rfl
theorem nb_cw119 : nb_cwP 119 := fun X y cc rt h1 h2 h3 h4 => by cases h1; cases h2; cases h3; cases h4; rfl
theorem nb_cw120 : nb_cwP 120 := fun X y cc rt h1 h2 h3 h4 => by cases h1; cases h2; cases h3; cases h4; rfl
theorem nb_cw121 : nb_cwP 121 := fun X y cc rt h1 h2 h3 h4 => by cases h1; cases h2; cases h3; cases h4; rfl
theorem nb_cw122 : nb_cwP 122 := fun X y cc rt h1 h2 h3 h4 => by cases h1; cases h2; cases h3; cases h4; rfl
theorem nb_cw123 : nb_cwP 123 := fun X y cc rt h1 h2 h3 h4 => by cases h1; cases h2; cases h3; cases h4; rfl
theorem nb_cw124 : nb_cwP 124 := fun X y cc rt h1 h2 h3 h4 => by cases h1; cases h2; cases h3; cases h4; rfl
theorem nb_cw125 : nb_cwP 125 := fun X y cc rt h1 h2 h3 h4 => by cases h1; cases h2; cases h3; cases h4; rfl
theorem nb_cw126 : nb_cwP 126 := fun X y cc rt h1 h2 h3 h4 => by cases h1; cases h2; cases h3; cases h4; rfl
theorem nb_cw127 : nb_cwP 127 := fun X y cc rt h1 h2 h3 h4 => by cases h1; cases h2; cases h3; cases h4; rfl
theorem nb_cw128 : nb_cwP 128 := fun X y cc rt h1 h2 h3 h4 => by cases h1; cases h2; cases h3; cases h4; rfl
theorem nb_cw129 : nb_cwP 129 := fun X y cc rt h1 h2 h3 h4 => by cases h1; cases h2; cases h3; cases h4; rfl
theorem nb_cw130 : nb_cwP 130 := fun X y cc rt h1 h2 h3 h4 => by cases h1; cases h2; cases h3; cases h4; rfl
theorem nb_cw131 : nb_cwP 131 := fun X y cc rt h1 h2 h3 h4 => by cases h1; cases h2; cases h3; cases h4; rfl
theorem nb_cw132 : nb_cwP 132 := fun X y cc rt h1 h2 h3 h4 => by cases h1; cases h2; cases h3; cases h4; rfl
theorem nb_cw133 : nb_cwP 133 := fun X y cc rt h1 h2 h3 h4 => by cases h1; cases h2; cases h3; cases h4; rfl
theorem nb_cw134 : nb_cwP 134 := fun X y cc rt h1 h2 h3 h4 => by cases h1; cases h2; cases h3; cases h4; rfl
theorem nb_cw135 : nb_cwP 135 := fun X y cc rt h1 h2 h3 h4 => by cases h1; cases h2; cases h3; cases h4; rfl
theorem nb_cw136 : nb_cwP 136 := fun X y cc rt h1 h2 h3 h4 => by cases h1; cases h2; cases h3; cases h4; rfl
theorem nb_cw137 : nb_cwP 137 := fun X y cc rt h1 h2 h3 h4 => by cases h1; cases h2; cases h3; cases h4; rfl
theorem nb_cw138 : nb_cwP 138 := fun X y cc rt h1 h2 h3 h4 => by cases h1; cases h2; cases h3; cases h4; rfl
theorem nb_cw139 : nb_cwP 139 := fun X y cc rt h1 h2 h3 h4 => by cases h1; cases h2; cases h3; cases h4; rfl
theorem nb_cw140 : nb_cwP 140 := fun X y cc rt h1 h2 h3 h4 => by cases h1; cases h2; cases h3; cases h4; rfl
theorem nb_cw141 : nb_cwP 141 := fun X y cc rt h1 h2 h3 h4 => by cases h1; cases h2; cases h3; cases h4; rfl
theorem nb_cw142 : nb_cwP 142 := fun X y cc rt h1 h2 h3 h4 => by cases h1; cases h2; cases h3; cases h4; rfl
theorem nb_cw143 : nb_cwP 143 := fun X y cc rt h1 h2 h3 h4 => by cases h1; cases h2; cases h3; cases h4; rfl
theorem nb_cw144 : nb_cwP 144 := fun X y cc rt h1 h2 h3 h4 => by cases h1; cases h2; cases h3; cases h4; rfl
theorem nb_cw145 : nb_cwP 145 := fun X y cc rt h1 h2 h3 h4 => by cases h1; cases h2; cases h3; cases h4; rfl
theorem nb_cw146 : nb_cwP 146 := fun X y cc rt h1 h2 h3 h4 => by cases h1; cases h2; cases h3; cases h4; rfl
theorem nb_cw147 : nb_cwP 147 := fun X y cc rt h1 h2 h3 h4 => by cases h1; cases h2; cases h3; cases h4; rfl
theorem nb_cw148 : nb_cwP 148 := fun X y cc rt h1 h2 h3 h4 => by cases h1; cases h2; cases h3; cases h4; rfl
theorem nb_cw149 : nb_cwP 149 := fun X y cc rt h1 h2 h3 h4 => by cases h1; cases h2; cases h3; cases h4; rfl
theorem nb_cw150 : nb_cwP 150 := fun X y cc rt h1 h2 h3 h4 => by cases h1; cases h2; cases h3; cases h4; rfl
theorem nb_cw151 : nb_cwP 151 := fun X y cc rt h1 h2 h3 h4 => by cases h1; cases h2; cases h3; cases h4; rfl
theorem nb_cw152 : nb_cwP 152 := fun X y cc rt h1 h2 h3 h4 => by cases h1; cases h2; cases h3; cases h4; rfl
theorem nb_cw153 : nb_cwP 153 := fun X y cc rt h1 h2 h3 h4 => by cases h1; cases h2; cases h3; cases h4; rfl
theorem nb_cw154 : nb_cwP 154 := fun X y cc rt h1 h2 h3 h4 => by cases h1; cases h2; cases h3; cases h4; rfl
theorem nb_cw155 : nb_cwP 155 := fun X y cc rt h1 h2 h3 h4 => by cases h1; cases h2; cases h3; cases h4; rfl
theorem nb_cw156 : nb_cwP 156 := fun X y cc rt h1 h2 h3 h4 => by cases h1; cases h2; cases h3; cases h4; rfl
theorem nb_cw157 : nb_cwP 157 := fun X y cc rt h1 h2 h3 h4 => by cases h1; cases h2; cases h3; cases h4; rfl
theorem nb_cw158 : nb_cwP 158 := fun X y cc rt h1 h2 h3 h4 => by cases h1; cases h2; cases h3; cases h4; rfl
theorem nb_cw159 : nb_cwP 159 := fun X y cc rt h1 h2 h3 h4 => by cases h1; cases h2; cases h3; cases h4; rfl
theorem nb_cw160 : nb_cwP 160 := fun X y cc rt h1 h2 h3 h4 => by cases h1; cases h2; cases h3; cases h4; rfl
theorem nb_cw161 : nb_cwP 161 := fun X y cc rt h1 h2 h3 h4 => by cases h1; cases h2; cases h3; cases h4; rfl
theorem nb_cw162 : nb_cwP 162 := fun X y cc rt h1 h2 h3 h4 => by cases h1; cases h2; cases h3; cases h4; rfl
theorem nb_cw163 : nb_cwP 163 := fun X y cc rt h1 h2 h3 h4 => by cases h1; cases h2; cases h3; cases h4; rfl
theorem nb_cw164 : nb_cwP 164 := fun X y cc rt h1 h2 h3 h4 => by cases h1; cases h2; cases h3; cases h4; rfl
theorem nb_cw165 : nb_cwP 165 := fun X y cc rt h1 h2 h3 h4 => by cases h1; cases h2; cases h3; cases h4; rfl
theorem nb_cw166 : nb_cwP 166 := fun X y cc rt h1 h2 h3 h4 => by cases h1; cases h2; cases h3; cases h4; rfl
theorem nb_cw167 : nb_cwP 167 := fun X y cc rt h1 h2 h3 h4 => by cases h1; cases h2; cases h3; cases h4; rfl
theorem nb_cw168 : nb_cwP 168 := fun X y cc rt h1 h2 h3 h4 => by cases h1; cases h2; cases h3; cases h4; rfl
theorem nb_cw169 : nb_cwP 169 := fun X y cc rt h1 h2 h3 h4 => by cases h1; cases h2; cases h3; cases h4; rfl
theorem nb_cw170 : nb_cwP 170 := fun X y cc rt h1 h2 h3 h4 => by cases h1; cases h2; cases h3; cases h4; rfl
theorem nb_cw171 : nb_cwP 171 := fun X y cc rt h1 h2 h3 h4 => by cases h1; cases h2; cases h3; cases h4; rfl
theorem nb_cw172 : nb_cwP 172 := fun X y cc rt h1 h2 h3 h4 => by cases h1; cases h2; cases h3; cases h4; rfl
theorem nb_cw173 : nb_cwP 173 := fun X y cc rt h1 h2 h3 h4 => by cases h1; cases h2; cases h3; cases h4; rfl
theorem nb_cw174 : nb_cwP 174 := fun X y cc rt h1 h2 h3 h4 => by cases h1; cases h2; cases h3; cases h4; rfl
theorem nb_cw175 : nb_cwP 175 := fun X y cc rt h1 h2 h3 h4 => by cases h1; cases h2; cases h3; cases h4; rfl
theorem nb_cw176 : nb_cwP 176 := fun X y cc rt h1 h2 h3 h4 => by cases h1; cases h2; cases h3; cases h4; rfl
theorem nb_cw177 : nb_cwP 177 := fun X y cc rt h1 h2 h3 h4 => by cases h1; cases h2; cases h3; cases h4; rfl
theorem nb_cw178 : nb_cwP 178 := fun X y cc rt h1 h2 h3 h4 => by cases h1; cases h2; cases h3; cases h4; rfl
theorem nb_cw179 : nb_cwP 179 := fun X y cc rt h1 h2 h3 h4 => by cases h1; cases h2; cases h3; cases h4; rfl
theorem nb_cw180 : nb_cwP 180 := fun X y cc rt h1 h2 h3 h4 => by cases h1; cases h2; cases h3; cases h4; rfl
theorem nb_cw181 : nb_cwP 181 := fun X y cc rt h1 h2 h3 h4 => by cases h1; cases h2; cases h3; cases h4; rfl
theorem nb_cw182 : nb_cwP 182 := fun X y cc rt h1 h2 h3 h4 => by cases h1; cases h2; cases h3; cases h4; rfl
theorem nb_cw183 : nb_cwP 183 := fun X y cc rt h1 h2 h3 h4 => by cases h1; cases h2; cases h3; cases h4; rfl
theorem nb_cw184 : nb_cwP 184 := fun X y cc rt h1 h2 h3 h4 => by cases h1; cases h2; cases h3; cases h4; rfl
theorem nb_cw185 : nb_cwP 185 := fun X y cc rt h1 h2 h3 h4 => by cases h1; cases h2; cases h3; cases h4; rfl
theorem nb_cw186 : nb_cwP 186 := fun X y cc rt h1 h2 h3 h4 => by cases h1; cases h2; cases h3; cases h4; rfl
theorem nb_cw187 : nb_cwP 187 := fun X y cc rt h1 h2 h3 h4 => by cases h1; cases h2; cases h3; cases h4; rfl
theorem nb_cw188 : nb_cwP 188 := fun X y cc rt h1 h2 h3 h4 => by cases h1; cases h2; cases h3; cases h4; rfl
theorem nb_cw189 : nb_cwP 189 := fun X y cc rt h1 h2 h3 h4 => by cases h1; cases h2; cases h3; cases h4; rfl
theorem nb_cw190 : nb_cwP 190 := fun X y cc rt h1 h2 h3 h4 => by cases h1; cases h2; cases h3; cases h4; rfl
theorem nb_cw191 : nb_cwP 191 := fun X y cc rt h1 h2 h3 h4 => by cases h1; cases h2; cases h3; cases h4; rfl
theorem nb_cw192 : nb_cwP 192 := fun X y cc rt h1 h2 h3 h4 => by cases h1; cases h2; cases h3; cases h4; rfl
theorem nb_cw193 : nb_cwP 193 := fun X y cc rt h1 h2 h3 h4 => by cases h1; cases h2; cases h3; cases h4; rfl
theorem nb_cw194 : nb_cwP 194 := fun X y cc rt h1 h2 h3 h4 => by cases h1; cases h2; cases h3; cases h4; rfl
theorem nb_cw195 : nb_cwP 195 := fun X y cc rt h1 h2 h3 h4 => by cases h1; cases h2; cases h3; cases h4; rfl
theorem nb_cw196 : nb_cwP 196 := fun X y cc rt h1 h2 h3 h4 => by cases h1; cases h2; cases h3; cases h4; rfl
theorem nb_cw197 : nb_cwP 197 := fun X y cc rt h1 h2 h3 h4 => by cases h1; cases h2; cases h3; cases h4; rfl
theorem nb_cw198 : nb_cwP 198 := fun X y cc rt h1 h2 h3 h4 => by cases h1; cases h2; cases h3; cases h4; rfl
theorem nb_cw199 : nb_cwP 199 := fun X y cc rt h1 h2 h3 h4 => by cases h1; cases h2; cases h3; cases h4; rfl
theorem nb_cw200 : nb_cwP 200 := fun X y cc rt h1 h2 h3 h4 => by cases h1; cases h2; cases h3; cases h4; rfl
theorem nb_cw201 : nb_cwP 201 := fun X y cc rt h1 h2 h3 h4 => by cases h1; cases h2; cases h3; cases h4; rfl
theorem nb_cw202 : nb_cwP 202 := fun X y cc rt h1 h2 h3 h4 => by cases h1; cases h2; cases h3; cases h4; rfl
theorem nb_cw203 : nb_cwP 203 := fun X y cc rt h1 h2 h3 h4 => by cases h1; cases h2; cases h3; cases h4; rfl
theorem nb_cw204 : nb_cwP 204 := fun X y cc rt h1 h2 h3 h4 => by cases h1; cases h2; cases h3; cases h4; rfl
theorem nb_cw205 : nb_cwP 205 := fun X y cc rt h1 h2 h3 h4 => by cases h1; cases h2; cases h3; cases h4; rfl
theorem nb_cw206 : nb_cwP 206 := fun X y cc rt h1 h2 h3 h4 => by cases h1; cases h2; cases h3; cases h4; rfl
theorem nb_cw207 : nb_cwP 207 := fun X y cc rt h1 h2 h3 h4 => by cases h1; cases h2; cases h3; cases h4; rfl
theorem nb_cw208 : nb_cwP 208 := fun X y cc rt h1 h2 h3 h4 => by cases h1; cases h2; cases h3; cases h4; rfl
theorem nb_cw209 : nb_cwP 209 := fun X y cc rt h1 h2 h3 h4 => by cases h1; cases h2; cases h3; cases h4; rfl
theorem nb_cw210 : nb_cwP 210 := fun X y cc rt h1 h2 h3 h4 => by cases h1; cases h2; cases h3; cases h4; rfl
theorem nb_cw211 : nb_cwP 211 := fun X y cc rt h1 h2 h3 h4 => by cases h1; cases h2; cases h3; cases h4; rfl
theorem nb_cw212 : nb_cwP 212 := fun X y cc rt h1 h2 h3 h4 => by cases h1; cases h2; cases h3; cases h4; rfl
theorem nb_cw213 : nb_cwP 213 := fun X y cc rt h1 h2 h3 h4 => by cases h1; cases h2; cases h3; cases h4; rfl
theorem nb_cw214 : nb_cwP 214 := fun X y cc rt h1 h2 h3 h4 => by cases h1; cases h2; cases h3; cases h4; rfl
theorem nb_cw215 : nb_cwP 215 := fun X y cc rt h1 h2 h3 h4 => by cases h1; cases h2; cases h3; cases h4; rfl
theorem nb_cw216 : nb_cwP 216 := fun X y cc rt h1 h2 h3 h4 => by cases h1; cases h2; cases h3; cases h4; rfl
theorem nb_cw217 : nb_cwP 217 := fun X y cc rt h1 h2 h3 h4 => by cases h1; cases h2; cases h3; cases h4; rfl
theorem nb_cw218 : nb_cwP 218 := fun X y cc rt h1 h2 h3 h4 => by cases h1; cases h2; cases h3; cases h4; rfl
theorem nb_cw219 : nb_cwP 219 := fun X y cc rt h1 h2 h3 h4 => by cases h1; cases h2; cases h3; cases h4; rfl
theorem nb_cw220 : nb_cwP 220 := fun X y cc rt h1 h2 h3 h4 => by cases h1; cases h2; cases h3; cases h4; rfl
theorem nb_cw221 : nb_cwP 221 := fun X y cc rt h1 h2 h3 h4 => by cases h1; cases h2; cases h3; cases h4; rfl
theorem nb_cw222 : nb_cwP 222 := fun X y cc rt h1 h2 h3 h4 => by cases h1; cases h2; cases h3; cases h4; rfl
theorem nb_cw223 : nb_cwP 223 := fun X y cc rt h1 h2 h3 h4 => by cases h1; cases h2; cases h3; cases h4; rfl
theorem nb_cw224 : nb_cwP 224 := fun X y cc rt h1 h2 h3 h4 => by cases h1; cases h2; cases h3; cases h4; rfl
theorem nb_cw225 : nb_cwP 225 := fun X y cc rt h1 h2 h3 h4 => by cases h1; cases h2; cases h3; cases h4; rfl
theorem nb_cw226 : nb_cwP 226 := fun X y cc rt h1 h2 h3 h4 => by cases h1; cases h2; cases h3; cases h4; rfl
theorem nb_cw227 : nb_cwP 227 := fun X y cc rt h1 h2 h3 h4 => by cases h1; cases h2; cases h3; cases h4; rfl
theorem nb_cw228 : nb_cwP 228 := fun X y cc rt h1 h2 h3 h4 => by cases h1; cases h2; cases h3; cases h4; rfl
theorem nb_cw229 : nb_cwP 229 := fun X y cc rt h1 h2 h3 h4 => by cases h1; cases h2; cases h3; cases h4; rfl
theorem nb_cw230 : nb_cwP 230 := fun X y cc rt h1 h2 h3 h4 => by cases h1; cases h2; cases h3; cases h4; rfl
theorem nb_cw231 : nb_cwP 231 := fun X y cc rt h1 h2 h3 h4 => by cases h1; cases h2; cases h3; cases h4; rfl
theorem nb_cw232 : nb_cwP 232 := fun X y cc rt h1 h2 h3 h4 => by cases h1; cases h2; cases h3; cases h4; rfl
theorem nb_cw233 : nb_cwP 233 := fun X y cc rt h1 h2 h3 h4 => by cases h1; cases h2; cases h3; cases h4; rfl
theorem nb_cw234 : nb_cwP 234 := fun X y cc rt h1 h2 h3 h4 => by cases h1; cases h2; cases h3; cases h4; rfl
theorem nb_cw235 : nb_cwP 235 := fun X y cc rt h1 h2 h3 h4 => by cases h1; cases h2; cases h3; cases h4; rfl
theorem nb_cw236 : nb_cwP 236 := fun X y cc rt h1 h2 h3 h4 => by cases h1; cases h2; cases h3; cases h4; rfl
theorem nb_cw237 : nb_cwP 237 := fun X y cc rt h1 h2 h3 h4 => by cases h1; cases h2; cases h3; cases h4; rfl
theorem nb_cw238 : nb_cwP 238 := fun X y cc rt h1 h2 h3 h4 => by cases h1; cases h2; cases h3; cases h4; rfl
theorem nb_cw239 : nb_cwP 239 := fun X y cc rt h1 h2 h3 h4 => by cases h1; cases h2; cases h3; cases h4; rfl
theorem nb_cw240 : nb_cwP 240 := fun X y cc rt h1 h2 h3 h4 => by cases h1; cases h2; cases h3; cases h4; rfl
theorem nb_cw241 : nb_cwP 241 := fun X y cc rt h1 h2 h3 h4 => by cases h1; cases h2; cases h3; cases h4; rfl
theorem nb_cw242 : nb_cwP 242 := fun X y cc rt h1 h2 h3 h4 => by cases h1; cases h2; cases h3; cases h4; rfl
theorem nb_cw243 : nb_cwP 243 := fun X y cc rt h1 h2 h3 h4 => by cases h1; cases h2; cases h3; cases h4; rfl
theorem nb_cw244 : nb_cwP 244 := fun X y cc rt h1 h2 h3 h4 => by cases h1; cases h2; cases h3; cases h4; rfl
theorem nb_cw245 : nb_cwP 245 := fun X y cc rt h1 h2 h3 h4 => by cases h1; cases h2; cases h3; cases h4; rfl
theorem nb_cw246 : nb_cwP 246 := fun X y cc rt h1 h2 h3 h4 => by cases h1; cases h2; cases h3; cases h4; rfl
theorem nb_cw247 : nb_cwP 247 := fun X y cc rt h1 h2 h3 h4 => by cases h1; cases h2; cases h3; cases h4; rfl
theorem nb_cw248 : nb_cwP 248 := fun X y cc rt h1 h2 h3 h4 => by cases h1; cases h2; cases h3; cases h4; rfl
theorem nb_cw249 : nb_cwP 249 := fun X y cc rt h1 h2 h3 h4 => by cases h1; cases h2; cases h3; cases h4; rfl
theorem nb_cw250 : nb_cwP 250 := fun X y cc rt h1 h2 h3 h4 => by cases h1; cases h2; cases h3; cases h4; rfl
theorem nb_cw251 : nb_cwP 251 := fun X y cc rt h1 h2 h3 h4 => by cases h1; cases h2; cases h3; cases h4; rfl
theorem nb_cw252 : nb_cwP 252 := fun X y cc rt h1 h2 h3 h4 => by cases h1; cases h2; cases h3; cases h4; rfl
theorem nb_cw253 : nb_cwP 253 := fun X y cc rt h1 h2 h3 h4 => by cases h1; cases h2; cases h3; cases h4; rfl
theorem nb_cw254 : nb_cwP 254 := fun X y cc rt h1 h2 h3 h4 => by cases h1; cases h2; cases h3; cases h4; rfl
theorem nb_cw255 : nb_cwP 255 := fun X y cc rt h1 h2 h3 h4 => by cases h1; cases h2; cases h3; cases h4; rfl
theorem nb_cw256 : nb_cwP 256 := fun X y cc rt h1 h2 h3 h4 => by cases h1; cases h2; cases h3; cases h4; rfl
theorem nb_cw257 : nb_cwP 257 := fun X y cc rt h1 h2 h3 h4 => by cases h1; cases h2; cases h3; cases h4; rfl
theorem nb_cw258 : nb_cwP 258 := fun X y cc rt h1 h2 h3 h4 => by cases h1; cases h2; cases h3; cases h4; rfl
theorem nb_cw259 : nb_cwP 259 := fun X y cc rt h1 h2 h3 h4 => by cases h1; cases h2; cases h3; cases h4; rfl
theorem nb_cw260 : nb_cwP 260 := fun X y cc rt h1 h2 h3 h4 => by cases h1; cases h2; cases h3; cases h4; rfl
theorem nb_cw261 : nb_cwP 261 := fun X y cc rt h1 h2 h3 h4 => by cases h1; cases h2; cases h3; cases h4; rfl
theorem nb_cw262 : nb_cwP 262 := fun X y cc rt h1 h2 h3 h4 => by cases h1; cases h2; cases h3; cases h4; rfl
theorem nb_cw263 : nb_cwP 263 := fun X y cc rt h1 h2 h3 h4 => by cases h1; cases h2; cases h3; cases h4; rfl
theorem nb_cw264 : nb_cwP 264 := fun X y cc rt h1 h2 h3 h4 => by cases h1; cases h2; cases h3; cases h4; rfl
theorem nb_cw265 : nb_cwP 265 := fun X y cc rt h1 h2 h3 h4 => by cases h1; cases h2; cases h3; cases h4; rfl
theorem nb_cw266 : nb_cwP 266 := fun X y cc rt h1 h2 h3 h4 => by cases h1; cases h2; cases h3; cases h4; rfl
theorem nb_cw267 : nb_cwP 267 := fun X y cc rt h1 h2 h3 h4 => by cases h1; cases h2; cases h3; cases h4; rfl
theorem nb_cw268 : nb_cwP 268 := fun X y cc rt h1 h2 h3 h4 => by cases h1; cases h2; cases h3; cases h4; rfl
theorem nb_cw269 : nb_cwP 269 := fun X y cc rt h1 h2 h3 h4 => by cases h1; cases h2; cases h3; cases h4; rfl
theorem nb_cw270 : nb_cwP 270 := fun X y cc rt h1 h2 h3 h4 => by cases h1; cases h2; cases h3; cases h4; rfl
theorem nb_cw271 : nb_cwP 271 := fun X y cc rt h1 h2 h3 h4 => by cases h1; cases h2; cases h3; cases h4; rfl
theorem nb_cw272 : nb_cwP 272 := fun X y cc rt h1 h2 h3 h4 => by cases h1; cases h2; cases h3; cases h4; rfl
theorem nb_cw273 : nb_cwP 273 := fun X y cc rt h1 h2 h3 h4 => by cases h1; cases h2; cases h3; cases h4; rfl
theorem nb_cw274 : nb_cwP 274 := fun X y cc rt h1 h2 h3 h4 => by cases h1; cases h2; cases h3; cases h4; rfl
theorem nb_cw275 : nb_cwP 275 := fun X y cc rt h1 h2 h3 h4 => by cases h1; cases h2; cases h3; cases h4; rfl
theorem nb_cw276 : nb_cwP 276 := fun X y cc rt h1 h2 h3 h4 => by cases h1; cases h2; cases h3; cases h4; rfl
theorem nb_cw277 : nb_cwP 277 := fun X y cc rt h1 h2 h3 h4 => by cases h1; cases h2; cases h3; cases h4; rfl
theorem nb_cw278 : nb_cwP 278 := fun X y cc rt h1 h2 h3 h4 => by cases h1; cases h2; cases h3; cases h4; rfl
theorem nb_cw279 : nb_cwP 279 := fun X y cc rt h1 h2 h3 h4 => by cases h1; cases h2; cases h3; cases h4; rfl
theorem nb_cw280 : nb_cwP 280 := fun X y cc rt h1 h2 h3 h4 => by cases h1; cases h2; cases h3; cases h4; rfl
theorem nb_cw281 : nb_cwP 281 := fun X y cc rt h1 h2 h3 h4 => by cases h1; cases h2; cases h3; cases h4; rfl
theorem nb_cw282 : nb_cwP 282 := fun X y cc rt h1 h2 h3 h4 => by cases h1; cases h2; cases h3; cases h4; rfl
theorem nb_cw283 : nb_cwP 283 := fun X y cc rt h1 h2 h3 h4 => by cases h1; cases h2; cases h3; cases h4; rfl
theorem nb_cw284 : nb_cwP 284 := fun X y cc rt h1 h2 h3 h4 => by cases h1; cases h2; cases h3; cases h4; rfl
theorem nb_cw285 : nb_cwP 285 := fun X y cc rt h1 h2 h3 h4 => by cases h1; cases h2; cases h3; cases h4; rfl
theorem nb_cw286 : nb_cwP 286 := fun X y cc rt h1 h2 h3 h4 => by cases h1; cases h2; cases h3; cases h4; rfl
theorem nb_cw287 : nb_cwP 287 := fun X y cc rt h1 h2 h3 h4 => by cases h1; cases h2; cases h3; cases h4; rfl
theorem nb_cw288 : nb_cwP 288 := fun X y cc rt h1 h2 h3 h4 => by cases h1; cases h2; cases h3; cases h4; rfl
theorem nb_cw289 : nb_cwP 289 := fun X y cc rt h1 h2 h3 h4 => by cases h1; cases h2; cases h3; cases h4; rfl
theorem nb_cw290 : nb_cwP 290 := fun X y cc rt h1 h2 h3 h4 => by cases h1; cases h2; cases h3; cases h4; rfl
theorem nb_cw291 : nb_cwP 291 := fun X y cc rt h1 h2 h3 h4 => by cases h1; cases h2; cases h3; cases h4; rfl
theorem nb_cw292 : nb_cwP 292 := fun X y cc rt h1 h2 h3 h4 => by cases h1; cases h2; cases h3; cases h4; rfl
theorem nb_cw294 : nb_cwP 294 := fun X y cc rt h1 h2 h3 h4 => by cases h1; cases h2; cases h3; cases h4; rfl
theorem nb_cw295 : nb_cwP 295 := fun X y cc rt h1 h2 h3 h4 => by cases h1; cases h2; cases h3; cases h4; rfl
theorem nb_cwx0 : ∀ i ∈ ([0, 1, 2, 3, 4, 5, 6, 7, 8, 9, 10, 11, 12, 13, 14, 15, 16, 17, 18, 19, 20, 21, 22, 23, 24, 25, 26, 27, 28, 29, 30, 31, 32, 33, 34, 35, 36, 37, 38, 39, 40, 41, 42, 43, 44, 45, 46, 47, 48, 49] : List Nat), nb_cwP i := List.forall_mem_cons.mpr ⟨nb_cw0, List.forall_mem_cons.mpr ⟨nb_cw1, List.forall_mem_cons.mpr ⟨nb_cw2, List.forall_mem_cons.mpr ⟨nb_cw3, List.forall_mem_cons.mpr ⟨nb_cw4, List.forall_mem_cons.mpr ⟨nb_cw5, List.forall_mem_cons.mpr ⟨nb_cw6, List.forall_mem_cons.mpr ⟨nb_cw7, List.forall_mem_cons.mpr ⟨nb_cw8, List.forall_mem_cons.mpr ⟨nb_cw9, List.forall_mem_cons.mpr ⟨nb_cw10, List.forall_mem_cons.mpr ⟨nb_cw11, List.forall_mem_cons.mpr ⟨nb_cw12, List.forall_mem_cons.mpr ⟨nb_cw13, List.forall_mem_cons.mpr ⟨nb_cw14, List.forall_mem_cons.mpr ⟨nb_cw15, List.forall_mem_cons.mpr ⟨nb_cw16, List.forall_mem_cons.mpr ⟨nb_cw17, List.forall_mem_cons.mpr ⟨nb_cw18, List.forall_mem_cons.mpr ⟨nb_cw19, List.forall_mem_cons.mpr ⟨nb_cw20, List.forall_mem_cons.mpr ⟨nb_cw21, List.forall_mem_cons.mpr ⟨nb_cw22, List.forall_mem_cons.mpr ⟨nb_cw23, List.forall_mem_cons.mpr ⟨nb_cw24, List.forall_mem_cons.mpr ⟨nb_cw25, List.forall_mem_cons.mpr ⟨nb_cw26, List.forall_mem_cons.mpr ⟨nb_cw27, List.forall_mem_cons.mpr ⟨nb_cw28, List.forall_mem_cons.mpr ⟨nb_cw29, List.forall_mem_cons.mpr ⟨nb_cw30, List.forall_mem_cons.mpr ⟨nb_cw31, List.forall_mem_cons.mpr ⟨nb_cw32, List.forall_mem_cons.mpr ⟨nb_cw33, List.forall_mem_cons.mpr ⟨nb_cw34, List.forall_mem_cons.mpr ⟨nb_cw35, List.forall_mem_cons.mpr ⟨nb_cw36, List.forall_mem_cons.mpr ⟨nb_cw37, List.forall_mem_cons.mpr ⟨nb_cw38, List.forall_mem_cons.mpr ⟨nb_cw39, List.forall_mem_cons.mpr ⟨nb_cw40, List.forall_mem_cons.mpr ⟨nb_cw41, List.forall_mem_cons.mpr ⟨nb_cw42, List.forall_mem_cons.mpr ⟨nb_cw43, List.forall_mem_cons.mpr ⟨nb_cw44, List.forall_mem_cons.mpr ⟨nb_cw45, List.forall_mem_cons.mpr ⟨nb_cw46, List.forall_mem_cons.mpr ⟨nb_cw47, List.forall_mem_cons.mpr ⟨nb_cw48, List.forall_mem_cons.mpr ⟨nb_cw49, fun _ h => nomatch h⟩⟩⟩⟩⟩⟩⟩⟩⟩⟩⟩⟩⟩⟩⟩⟩⟩⟩⟩⟩⟩⟩⟩⟩⟩⟩⟩⟩⟩⟩⟩⟩⟩⟩⟩⟩⟩⟩⟩⟩⟩⟩⟩⟩⟩⟩⟩⟩⟩⟩
theorem nb_mhx0 : ([0, 1, 2, 3, 4, 5, 6, 7, 8, 9, 10, 11, 12, 13, 14, 15, 16, 17, 18, 19, 20, 21, 22, 23, 24, 25, 26, 27, 28, 29, 30, 31, 32, 33, 34, 35, 36, 37, 38, 39, 40, 41, 42, 43, 44, 45, 46, 47, 48, 49] : List Nat).all nb_mhB = true := by decide +kernel
theorem nb_cwx1 : ∀ i ∈ ([50, 51, 52, 53, 54, 55, 56, 57, 58, 59, 60, 61, 62, 63, 64, 65, 66, 67, 68, 69, 70, 71, 72, 73, 74, 75, 76, 77, 78, 79, 80, 81, 82, 83, 84, 85, 86, 87, 88, 89, 90, 91, 92, 93, 94, 95, 96, 97, 98, 99] : List Nat), nb_cwP i := List.forall_mem_cons.mpr ⟨nb_cw50, List.forall_mem_cons.mpr ⟨nb_cw51, List.forall_mem_cons.mpr ⟨nb_cw52, List.forall_mem_cons.mpr ⟨nb_cw53, List.forall_mem_cons.mpr ⟨nb_cw54, List.forall_mem_cons.mpr ⟨nb_cw55, List.forall_mem_cons.mpr ⟨nb_cw56, List.forall_mem_cons.mpr ⟨nb_cw57, List.forall_mem_cons.mpr ⟨nb_cw58, List.forall_mem_cons.mpr ⟨nb_cw59, List.forall_mem_cons.mpr ⟨nb_cw60, List.forall_mem_cons.mpr ⟨nb_cw61, List.forall_mem_cons.mpr ⟨nb_cw62, List.forall_mem_cons.mpr ⟨nb_cw63, List.forall_mem_cons.mpr ⟨nb_cw64, List.forall_mem_cons.mpr ⟨nb_cw65, List.forall_mem_cons.mpr ⟨nb_cw66, List.forall_mem_cons.mpr ⟨nb_cw67, List.forall_mem_cons.mpr ⟨nb_cw68, List.forall_mem_cons.mpr ⟨nb_cw69, List.forall_mem_cons.mpr ⟨nb_cw70, List.forall_mem_cons.mpr ⟨nb_cw71, List.forall_mem_cons.mpr ⟨nb_cw72, List.forall_mem_cons.mpr ⟨nb_cw73, List.forall_mem_cons.mpr ⟨nb_cw74, List.forall_mem_cons.mpr ⟨nb_cw75, List.forall_mem_cons.mpr ⟨nb_cw76, List.forall_mem_cons.mpr ⟨nb_cw77, List.forall_mem_cons.mpr ⟨nb_cw78, List.forall_mem_cons.mpr ⟨nb_cw79, List.forall_mem_cons.mpr ⟨nb_cw80, List.forall_mem_cons.mpr ⟨nb_cw81, List.forall_mem_cons.mpr ⟨nb_cw82, List.forall_mem_cons.mpr ⟨nb_cw83, List.forall_mem_cons.mpr ⟨nb_cw84, List.forall_mem_cons.mpr ⟨nb_cw85, List.forall_mem_cons.mpr ⟨nb_cw86, List.forall_mem_cons.mpr ⟨nb_cw87, List.forall_mem_cons.mpr ⟨nb_cw88, List.forall_mem_cons.mpr ⟨nb_cw89, List.forall_mem_cons.mpr ⟨nb_cw90, List.forall_mem_cons.mpr ⟨nb_cw91, List.forall_mem_cons.mpr ⟨nb_cw92, List.forall_mem_cons.mpr ⟨nb_cw93, List.forall_mem_cons.mpr ⟨nb_cw94, List.forall_mem_cons.mpr ⟨nb_cw95, List.forall_mem_cons.mpr ⟨nb_cw96, List.forall_mem_cons.mpr ⟨nb_cw97, List.forall_mem_cons.mpr ⟨nb_cw98, List.forall_mem_cons.mpr ⟨nb_cw99, fun _ h => nomatch h⟩⟩⟩⟩⟩⟩⟩⟩⟩⟩⟩⟩⟩⟩⟩⟩⟩⟩⟩⟩⟩⟩⟩⟩⟩⟩⟩⟩⟩⟩⟩⟩⟩⟩⟩⟩⟩⟩⟩⟩⟩⟩⟩⟩⟩⟩⟩⟩⟩⟩
theorem nb_mhx1 : ([50, 51, 52, 53, 54, 55, 56, 57, 58, 59, 60, 61, 62, 63, 64, 65, 66, 67, 68, 69, 70, 71, 72, 73, 74, 75, 76, 77, 78, 79, 80, 81, 82, 83, 84, 85, 86, 87, 88, 89, 90, 91, 92, 93, 94, 95, 96, 97, 98, 99] : List Nat).all nb_mhB = true := by decide +kernel
theorem nb_cwx2 : ∀ i ∈ ([100, 101, 102, 103, 104, 105, 106, 107, 108, 109, 110, 111, 112, 113, 114, 115, 116, 117, 118, 119, 120, 121, 122, 123, 124, 125, 126, 127, 128, 129, 130, 131, 132, 133, 134, 135, 136, 137, 138, 139, 140, 141, 142, 143, 144, 145, 146, 147, 148, 149] : List Nat), nb_cwP i := List.forall_mem_cons.mpr ⟨nb_cw100, List.forall_mem_cons.mpr ⟨nb_cw101, List.forall_mem_cons.mpr ⟨nb_cw102, List.forall_mem_cons.mpr ⟨nb_cw103, List.forall_mem_cons.mpr ⟨nb_cw104, List.forall_mem_cons.mpr ⟨nb_cw105, List.forall_mem_cons.mpr ⟨nb_cw106, List.forall_mem_cons.mpr ⟨nb_cw107, List.forall_mem_cons.mpr ⟨nb_cw108, List.forall_mem_cons.mpr ⟨nb_cw109, List.forall_mem_cons.mpr ⟨nb_cw110, List.forall_mem_cons.mpr ⟨nb_cw111, List.forall_mem_cons.mpr ⟨nb_cw112, List.forall_mem_cons.mpr ⟨nb_cw113, List.forall_mem_cons.mpr ⟨nb_cw114, List.forall_mem_cons.mpr ⟨nb_cw115, List.forall_mem_cons.mpr ⟨nb_cw116, List.forall_mem_cons.mpr ⟨nb_cw117, List.forall_mem_cons.mpr ⟨nb_cw118, List.forall_mem_cons.mpr ⟨nb_cw119, List.forall_mem_cons.mpr ⟨nb_cw120, List.forall_mem_cons.mpr ⟨nb_cw121, List.forall_mem_cons.mpr ⟨nb_cw122, List.forall_mem_cons.mpr ⟨nb_cw123, List.forall_mem_cons.mpr ⟨nb_cw124, List.forall_mem_cons.mpr ⟨nb_cw125, List.forall_mem_cons.mpr ⟨nb_cw126, List.forall_mem_cons.mpr ⟨nb_cw127, List.forall_mem_cons.mpr ⟨nb_cw128, List.forall_mem_cons.mpr ⟨nb_cw129, List.forall_mem_cons.mpr ⟨nb_cw130, List.forall_mem_cons.mpr ⟨nb_cw131, List.forall_mem_cons.mpr ⟨nb_cw132, List.forall_mem_cons.mpr ⟨nb_cw133, List.forall_mem_cons.mpr ⟨nb_cw134, List.forall_mem_cons.mpr ⟨nb_cw135, List.forall_mem_cons.mpr ⟨nb_cw136, List.forall_mem_cons.mpr ⟨nb_cw137, List.forall_mem_cons.mpr ⟨nb_cw138, List.forall_mem_cons.mpr ⟨nb_cw139, List.forall_mem_cons.mpr ⟨nb_cw140, List.forall_mem_cons.mpr ⟨nb_cw141, List.forall_mem_cons.mpr ⟨nb_cw142, List.forall_mem_cons.mpr ⟨nb_cw143, List.forall_mem_cons.mpr ⟨nb_cw144, List.forall_mem_cons.mpr ⟨nb_cw145, List.forall_mem_cons.mpr ⟨nb_cw146, List.forall_mem_cons.mpr ⟨nb_cw147, List.forall_mem_cons.mpr ⟨nb_cw148, List.forall_mem_cons.mpr ⟨nb_cw149, fun _ h => nomatch h⟩⟩⟩⟩⟩⟩⟩⟩⟩⟩⟩⟩⟩⟩⟩⟩⟩⟩⟩⟩⟩⟩⟩⟩⟩⟩⟩⟩⟩⟩⟩⟩⟩⟩⟩⟩⟩⟩⟩⟩⟩⟩⟩⟩⟩⟩⟩⟩⟩⟩
theorem nb_mhx2 : ([100, 101, 102, 103, 104, 105, 106, 107, 108, 109, 110, 111, 112, 113, 114, 115, 116, 117, 118, 119, 120, 121, 122, 123, 124, 125, 126, 127, 128, 129, 130, 131, 132, 133, 134, 135, 136, 137, 138, 139, 140, 141, 142, 143, 144, 145, 146, 147, 148, 149] : List Nat).all nb_mhB = true := by decide +kernel
theorem nb_cwx3 : ∀ i ∈ ([150, 151, 152, 153, 154, 155, 156, 157, 158, 159, 160, 161, 162, 163, 164, 165, 166, 167, 168, 169, 170, 171, 172, 173, 174, 175, 176, 177, 178, 179, 180, 181, 182, 183, 184, 185, 186, 187, 188, 189, 190, 191, 192, 193, 194, 195, 196, 197, 198, 199] : List Nat), nb_cwP i := List.forall_mem_cons.mpr ⟨nb_cw150, List.forall_mem_cons.mpr ⟨nb_cw151, List.forall_mem_cons.mpr ⟨nb_cw152, List.forall_mem_cons.mpr ⟨nb_cw153, List.forall_mem_cons.mpr ⟨nb_cw154, List.forall_mem_cons.mpr ⟨nb_cw155, List.forall_mem_cons.mpr ⟨nb_cw156, List.forall_mem_cons.mpr ⟨nb_cw157, List.forall_mem_cons.mpr ⟨nb_cw158, List.forall_mem_cons.mpr ⟨nb_cw159, List.forall_mem_cons.mpr ⟨nb_cw160, List.forall_mem_cons.mpr ⟨nb_cw161, List.forall_mem_cons.mpr ⟨nb_cw162, List.forall_mem_cons.mpr ⟨nb_cw163, List.forall_mem_cons.mpr ⟨nb_cw164, List.forall_mem_cons.mpr ⟨nb_cw165, List.forall_mem_cons.mpr ⟨nb_cw166, List.forall_mem_cons.mpr ⟨nb_cw167, List.forall_mem_cons.mpr ⟨nb_cw168, List.forall_mem_cons.mpr ⟨nb_cw169, List.forall_mem_cons.mpr ⟨nb_cw170, List.forall_mem_cons.mpr ⟨nb_cw171, List.forall_mem_cons.mpr ⟨nb_cw172, List.forall_mem_cons.mpr ⟨nb_cw173, List.forall_mem_cons.mpr ⟨nb_cw174, List.forall_mem_cons.mpr ⟨nb_cw175, List.forall_mem_cons.mpr ⟨nb_cw176, List.forall_mem_cons.mpr ⟨nb_cw177, List.forall_mem_cons.mpr ⟨nb_cw178, List.forall_mem_cons.mpr ⟨nb_cw179, List.forall_mem_cons.mpr ⟨nb_cw180, List.forall_mem_cons.mpr ⟨nb_cw181, List.forall_mem_cons.mpr ⟨nb_cw182, List.forall_mem_cons.mpr ⟨nb_cw183, List.forall_mem_cons.mpr ⟨nb_cw184, List.forall_mem_cons.mpr ⟨nb_cw185, List.forall_mem_cons.mpr ⟨nb_cw186, List.forall_mem_cons.mpr ⟨nb_cw187, List.forall_mem_cons.mpr ⟨nb_cw188, List.forall_mem_cons.mpr ⟨nb_cw189, List.forall_mem_cons.mpr ⟨nb_cw190, List.forall_mem_cons.mpr ⟨nb_cw191, List.forall_mem_cons.mpr ⟨nb_cw192, List.forall_mem_cons.mpr ⟨nb_cw193, List.forall_mem_cons.mpr ⟨nb_cw194, List.forall_mem_cons.mpr ⟨nb_cw195, List.forall_mem_cons.mpr ⟨nb_cw196, List.forall_mem_cons.mpr ⟨nb_cw197, List.forall_mem_cons.mpr ⟨nb_cw198, List.forall_mem_cons.mpr ⟨nb_cw199, fun _ h => nomatch h⟩⟩⟩⟩⟩⟩⟩⟩⟩⟩⟩⟩⟩⟩⟩⟩⟩⟩⟩⟩⟩⟩⟩⟩⟩⟩⟩⟩⟩⟩⟩⟩⟩⟩⟩⟩⟩⟩⟩⟩⟩⟩⟩⟩⟩⟩⟩⟩⟩⟩
theorem nb_mhx3 : ([150, 151, 152, 153, 154, 155, 156, 157, 158, 159, 160, 161, 162, 163, 164, 165, 166, 167, 168, 169, 170, 171, 172, 173, 174, 175, 176, 177, 178, 179, 180, 181, 182, 183, 184, 185, 186, 187, 188, 189, 190, 191, 192, 193, 194, 195, 196, 197, 198, 199] : List Nat).all nb_mhB = true := by decide +kernel
theorem nb_cwx4 : ∀ i ∈ ([200, 201, 202, 203, 204, 205, 206, 207, 208, 209, 210, 211, 212, 213, 214, 215, 216, 217, 218, 219, 220, 221, 222, 223, 224, 225, 226, 227, 228, 229, 230, 231, 232, 233, 234, 235, 236, 237, 238, 239, 240, 241, 242, 243, 244, 245, 246, 247, 248, 249] : List Nat), nb_cwP i := List.forall_mem_cons.mpr ⟨nb_cw200, List.forall_mem_cons.mpr ⟨nb_cw201, List.forall_mem_cons.mpr ⟨nb_cw202, List.forall_mem_cons.mpr ⟨nb_cw203, List.forall_mem_cons.mpr ⟨nb_cw204, List.forall_mem_cons.mpr ⟨nb_cw205, List.forall_mem_cons.mpr ⟨nb_cw206, List.forall_mem_cons.mpr ⟨nb_cw207, List.forall_mem_cons.mpr ⟨nb_cw208, List.forall_mem_cons.mpr ⟨nb_cw209, List.forall_mem_cons.mpr ⟨nb_cw210, List.forall_mem_cons.mpr ⟨nb_cw211, List.forall_mem_cons.mpr ⟨nb_cw212, List.forall_mem_cons.mpr ⟨nb_cw213, List.forall_mem_cons.mpr ⟨nb_cw214, List.forall_mem_cons.mpr ⟨nb_cw215, List.forall_mem_cons.mpr ⟨nb_cw216, List.forall_mem_cons.mpr ⟨nb_cw217, List.forall_mem_cons.mpr ⟨nb_cw218, List.forall_mem_cons.mpr ⟨nb_cw219, List.forall_mem_cons.mpr ⟨nb_cw220, List.forall_mem_cons.mpr ⟨nb_cw221, List.forall_mem_cons.mpr ⟨nb_cw222, List.forall_mem_cons.mpr ⟨nb_cw223, List.forall_mem_cons.mpr ⟨nb_cw224, List.forall_mem_cons.mpr ⟨nb_cw225, List.forall_mem_cons.mpr ⟨nb_cw226, List.forall_mem_cons.mpr ⟨nb_cw227, List.forall_mem_cons.mpr ⟨nb_cw228, List.forall_mem_cons.mpr ⟨nb_cw229, List.forall_mem_cons.mpr ⟨nb_cw230, List.forall_mem_cons.mpr ⟨nb_cw231, List.forall_mem_cons.mpr ⟨nb_cw232, List.forall_mem_cons.mpr ⟨nb_cw233, List.forall_mem_cons.mpr ⟨nb_cw234, List.forall_mem_cons.mpr ⟨nb_cw235, List.forall_mem_cons.mpr ⟨nb_cw236, List.forall_mem_cons.mpr ⟨nb_cw237, List.forall_mem_cons.mpr ⟨nb_cw238, List.forall_mem_cons.mpr ⟨nb_cw239, List.forall_mem_cons.mpr ⟨nb_cw240, List.forall_mem_cons.mpr ⟨nb_cw241, List.forall_mem_cons.mpr ⟨nb_cw242, List.forall_mem_cons.mpr ⟨nb_cw243, List.forall_mem_cons.mpr ⟨nb_cw244, List.forall_mem_cons.mpr ⟨nb_cw245, List.forall_mem_cons.mpr ⟨nb_cw246, List.forall_mem_cons.mpr ⟨nb_cw247, List.forall_mem_cons.mpr ⟨nb_cw248, List.forall_mem_cons.mpr ⟨nb_cw249, fun _ h => nomatch h⟩⟩⟩⟩⟩⟩⟩⟩⟩⟩⟩⟩⟩⟩⟩⟩⟩⟩⟩⟩⟩⟩⟩⟩⟩⟩⟩⟩⟩⟩⟩⟩⟩⟩⟩⟩⟩⟩⟩⟩⟩⟩⟩⟩⟩⟩⟩⟩⟩⟩
theorem nb_mhx4 : ([200, 201, 202, 203, 204, 205, 206, 207, 208, 209, 210, 211, 212, 213, 214, 215, 216, 217, 218, 219, 220, 221, 222, 223, 224, 225, 226, 227, 228, 229, 230, 231, 232, 233, 234, 235, 236, 237, 238, 239, 240, 241, 242, 243, 244, 245, 246, 247, 248, 249] : List Nat).all nb_mhB = true := by decide +kernel
theorem nb_cwx5 : ∀ i ∈ ([250, 251, 252, 253, 254, 255, 256, 257, 258, 259, 260, 261, 262, 263, 264, 265, 266, 267, 268, 269, 270, 271, 272, 273, 274, 275, 276, 277, 278, 279, 280, 281, 282, 283, 284, 285, 286, 287, 288, 289, 290, 291, 292, 294, 295] : List Nat), nb_cwP i := List.forall_mem_cons.mpr ⟨nb_cw250, List.forall_mem_cons.mpr ⟨nb_cw251, List.forall_mem_cons.mpr ⟨nb_cw252, List.forall_mem_cons.mpr ⟨nb_cw253, List.forall_mem_cons.mpr ⟨nb_cw254, List.forall_mem_cons.mpr ⟨nb_cw255, List.forall_mem_cons.mpr ⟨nb_cw256, List.forall_mem_cons.mpr ⟨nb_cw257, List.forall_mem_cons.mpr ⟨nb_cw258, List.forall_mem_cons.mpr ⟨nb_cw259, List.forall_mem_cons.mpr ⟨nb_cw260, List.forall_mem_cons.mpr ⟨nb_cw261, List.forall_mem_cons.mpr ⟨nb_cw262, List.forall_mem_cons.mpr ⟨nb_cw263, List.forall_mem_cons.mpr ⟨nb_cw264, List.forall_mem_cons.mpr ⟨nb_cw265, List.forall_mem_cons.mpr ⟨nb_cw266, List.forall_mem_cons.mpr ⟨nb_cw267, List.forall_mem_cons.mpr ⟨nb_cw268, List.forall_mem_cons.mpr ⟨nb_cw269, List.forall_mem_cons.mpr ⟨nb_cw270, List.forall_mem_cons.mpr ⟨nb_cw271, List.forall_mem_cons.mpr ⟨nb_cw272, List.forall_mem_cons.mpr ⟨nb_cw273, List.forall_mem_cons.mpr ⟨nb_cw274, List.forall_mem_cons.mpr ⟨nb_cw275, List.forall_mem_cons.mpr ⟨nb_cw276, List.forall_mem_cons.mpr ⟨nb_cw277, List.forall_mem_cons.mpr ⟨nb_cw278, List.forall_mem_cons.mpr ⟨nb_cw279, List.forall_mem_cons.mpr ⟨nb_cw280, List.forall_mem_cons.mpr ⟨nb_cw281, List.forall_mem_cons.mpr ⟨nb_cw282, List.forall_mem_cons.mpr ⟨nb_cw283, List.forall_mem_cons.mpr ⟨nb_cw284, List.forall_mem_cons.mpr ⟨nb_cw285, List.forall_mem_cons.mpr ⟨nb_cw286, List.forall_mem_cons.mpr ⟨nb_cw287, List.forall_mem_cons.mpr ⟨nb_cw288, List.forall_mem_cons.mpr ⟨nb_cw289, List.forall_mem_cons.mpr ⟨nb_cw290, List.forall_mem_cons.mpr ⟨nb_cw291, List.forall_mem_cons.mpr ⟨nb_cw292, List.forall_mem_cons.mpr ⟨nb_cw294, List.forall_mem_cons.mpr ⟨nb_cw295, fun _ h => nomatch h⟩⟩⟩⟩⟩⟩⟩⟩⟩⟩⟩⟩⟩⟩⟩⟩⟩⟩⟩⟩⟩⟩⟩⟩⟩⟩⟩⟩⟩⟩⟩⟩⟩⟩⟩⟩⟩⟩⟩⟩⟩⟩⟩⟩⟩
theorem nb_mhx5 : ([250, 251, 252, 253, 254, 255, 256, 257, 258, 259, 260, 261, 262, 263, 264, 265, 266, 267, 268, 269, 270, 271, 272, 273, 274, 275, 276, 277, 278, 279, 280, 281, 282, 283, 284, 285, 286, 287, 288, 289, 290, 291, 292, 294, 295] : List Nat).all nb_mhB = true := by decide +kernel
theorem nb_cwl (i : Nat) (h : i < 296) (h2 : i ≠ 293) : nb_cwP i := by
  by_cases q0 : i < 50
  · exact nb_cwx0 i (by simp only [List.mem_cons, List.not_mem_nil, or_false]; omega)
  by_cases q1 : i < 100
  · exact nb_cwx1 i (by simp only [List.mem_cons, List.not_mem_nil, or_false]; omega)
  by_cases q2 : i < 150
  · exact nb_cwx2 i (by simp only [List.mem_cons, List.not_mem_nil, or_false]; omega)
  by_cases q3 : i < 200
  · exact nb_cwx3 i (by simp only [List.mem_cons, List.not_mem_nil, or_false]; omega)
  by_cases q4 : i < 250
  · exact nb_cwx4 i (by simp only [List.mem_cons, List.not_mem_nil, or_false]; omega)
  by_cases q5 : i < 300
  · exact nb_cwx5 i (by simp only [List.mem_cons, List.not_mem_nil, or_false]; omega)
  · omega
theorem nb_mhl (i : Nat) (h : i < 296) (h2 : i ≠ 293) : nb_mhB i = true := by
  by_cases q0 : i < 50
  · exact List.all_eq_true.mp nb_mhx0 i (by simp only [List.mem_cons, List.not_mem_nil, or_false]; omega)
  by_cases q1 : i < 100
  · exact List.all_eq_true.mp nb_mhx1 i (by simp only [List.mem_cons, List.not_mem_nil, or_false]; omega)
  by_cases q2 : i < 150
  · exact List.all_eq_true.mp nb_mhx2 i (by simp only [List.mem_cons, List.not_mem_nil, or_false]; omega)
  by_cases q3 : i < 200
  · exact List.all_eq_true.mp nb_mhx3 i (by simp only [List.mem_cons, List.not_mem_nil, or_false]; omega)
  by_cases q4 : i < 250
  · exact List.all_eq_true.mp nb_mhx4 i (by simp only [List.mem_cons, List.not_mem_nil, or_false]; omega)
  by_cases q5 : i < 300
  · exact List.all_eq_true.mp nb_mhx5 i (by simp only [List.mem_cons, List.not_mem_nil, or_false]; omega)
  · omega
