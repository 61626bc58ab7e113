/-! SOUNDNESS: the calls that aren't walked, all; every run is the machine's -/
theorem nb_PR {l : Launch} (hlt : l.stackTraces = false) {n : Nat} (hn : nb_Sd l n) : nb_PRok l n := by
  intro own lv last cl vs M a hPK hv h
  unfold nb_prim at h
  split at h
  · rename_i t w
    obtain ⟨idx, rfl, h1, h2⟩ := hPK
    cases h
    exact nb_cs_900 h1 h2 (hv rfl _ _ rfl)
  · rename_i k
    obtain ⟨idx, rfl, h1, h2⟩ := hPK
    split at h
    · rename_i hk
      cases h
      exact nb_cs_901 h1 h2 hk
    · cases h
  · rename_i k i
    obtain ⟨idx, rfl, h1, h2⟩ := hPK
    split at h
    · rename_i hk
      cases h
      exact nb_cs_902 h1 h2 hk
    · cases h
  · rename_i a' i b j k
    obtain ⟨idx, rfl, h1, h2⟩ := hPK
    split at h
    · rename_i hk
      cases h
      exact nb_cs_903 h1 h2 hk
    · cases h
  · rename_i x i o
    obtain ⟨idx, rfl, rfl, rfl, h2⟩ := hPK
    exact nb_cs_904 hlt hn h2 h
  · obtain ⟨idx, rfl, h1, h2⟩ := hPK
    cases h
    exact nb_cs_905 h1 h2
  · obtain ⟨idx, rfl, h1, h2⟩ := hPK
    cases h
    exact nb_cs_906 h1 h2
  · obtain ⟨idx, rfl, h1, h2⟩ := hPK
    cases h
    exact nb_cs_907 h1 h2
  · cases h
theorem nb_sound {l : Launch} (hlt : l.stackTraces = false) : ∀ n, nb_Sd l n := nb_Sd_all nb_tab.1 (nb_MN l) (fun n hn => nb_PR hlt hn) nb_tab.2
