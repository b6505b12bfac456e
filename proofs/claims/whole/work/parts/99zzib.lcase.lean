/-! THE LAW'S WALK, 6.3: few -/
theorem tl_few : zTl 1919 := ⟨dL_law_1919, dL_law_1921, dL_law_1922, dL_law_1925, dL_law_1927, dL_law_1932, dL_law_1934, dL_law_1937, dL_law_1938, dL_law_1939, dL_law_1940, dL_law_1942, dL_law_1943, dL_law_1944, 736, dL_law_1949, by decide⟩
theorem C_few {len I : Nat} {sc : Nat → Int32} {g : Bool} {f : Nat → Int32} {μX μM : zMem} {ca cb : Nat} (hI : I + 7 ≤ len) (hl : len ≤ 3584) (h : zInv μX μM) (k : ∀ (g' : Bool) (f' : Nat → Int32) (μX' μM' : zMem), (g = true → g' = true) → zInv μX' μM' → zLaw len sc 2685 (zLoc (zi I) .null .null) [] g' μM' f' μX' (ca + (if g' = true then 0 else 7)) (cb + (if g' = true then 0 else 19706))) : zLaw len sc 1872 (zLoc (zi I) .null .null) [] g μM f μX (ca + 1 + (if g = true then 0 else 7)) (cb + 6 + (if g = true then 0 else 19706)) := by
  have T : ∀ (g' : Bool) (kx w : Int32) (f' : Nat → Int32) (μX' μM' : zMem), (g = true → g' = true) → f9_few (sc (I + 1)) (sc (I + 2)) (sc (I + 3)) μM = some (0, w, μM') → μM' 0 0 = kx → (kx = 0 → f' 0 = w) → zInv μX' μM' → zLaw len sc 1895 (zLoc (zi I) .null .null) [.int kx] g' μM f' μX' (ca + (if g' = true then 0 else 7)) (cb + (if g' = true then 0 else 19706)) := by
    intro g' kx w f' μX' μM' hgg hr' q1 q2 hi
    refine yA_istore (pc := 1895) (L' := zLoc (zi I) (.int kx) .null) dL_law_1895 (by decide) rfl ?_
    refine yA_aload_n (pc := 1897) dL_law_1897 rfl ?_
    refine L_arg (pc := 1898) (k := 1) hI hl (by decide) dL_law_1898 dL_law_1899 dL_law_1901 (by decide) dL_law_1902 dL_law_1903 ?_
    refine L_arg (pc := 1904) (k := 2) hI hl (by decide) dL_law_1904 dL_law_1905 dL_law_1907 (by decide) dL_law_1908 dL_law_1909 ?_
    refine L_arg (pc := 1910) (k := 3) hI hl (by decide) dL_law_1910 dL_law_1911 dL_law_1913 (by decide) dL_law_1914 dL_law_1915 ?_
    refine L_ref (pc := 1916) (As := [.int (sc (I + 1)), .int (sc (I + 2)), .int (sc (I + 3))]) (st := []) kvL_227 (t9_few (sc (I + 1)) (sc (I + 2)) (sc (I + 3)) μM) hr' (by decide) rfl rfl (fun q e => by cases e) (fun q e => by cases e) (fun w hw => absurd hw List.not_mem_nil) (by decide) dL_law_1916 ?_
    exact L_tail tl_few q1 q2 (k g' f' μX' μM' hgg hi)
  refine yA_aload_n (pc := 1872) dL_law_1872 rfl ?_
  refine L_arg (pc := 1873) (k := 1) hI hl (by decide) dL_law_1873 dL_law_1874 dL_law_1876 (by decide) dL_law_1877 dL_law_1878 ?_
  refine L_arg (pc := 1879) (k := 2) hI hl (by decide) dL_law_1879 dL_law_1880 dL_law_1882 (by decide) dL_law_1883 dL_law_1884 ?_
  refine L_arg (pc := 1885) (k := 3) hI hl (by decide) dL_law_1885 dL_law_1886 dL_law_1888 (by decide) dL_law_1889 dL_law_1890 ?_
  refine yA_aload_n (pc := 1891) dL_law_1891 rfl ?_
  rcases P_few0 (x := sc (I + 1)) (y := sc (I + 2)) (z := sc (I + 3)) h with ⟨e1, e2, w, μM', hr', h0, hi⟩ | ⟨v1, v5, v6, ⟨a1, a2, a3, a4, a5, a6, a7⟩, v, μM', hr', h0, hk⟩
  · cases g
    · exact L_wrap (pc := 1892) kwL_225 (tw_fewF_x1 e2) (by decide) rfl rfl (Or.inl rfl) (by show ca + 7 + (0 + 1) ≤ ca + 1 + 7; omega) (by show cb + 19706 + (0 + 6) ≤ cb + 6 + 19706; omega) dL_law_1892 (T false 1 w _ μX μM' (fun q => q) hr' (h0.trans (by decide)) (fun q => absurd q (by decide)) hi)
    · exact L_wrap (pc := 1892) kwL_225 (tw_few_x1 e1) (by decide) rfl rfl (Or.inl rfl) (by show ca + 0 + (0 + 1) ≤ ca + 1 + 0; omega) (by show cb + 0 + (0 + 6) ≤ cb + 6 + 0; omega) dL_law_1892 (T true 1 w _ μX μM' (fun q => q) hr' (h0.trans (by decide)) (fun q => absurd q (by decide)) hi)
  · cases g
    · obtain ⟨μ9, hf, hi⟩ := hk (cM1 69 70 (zup μX 69 (fun _ => 0))) few_keep
      exact L_wrap (pc := 1892) kwL_225 (tw_few0 a1 a2 a3 a4 a5 a6 a7 hf) (by decide) rfl rfl (Or.inr rfl) (by show ca + 0 + (0 + (0 + 6 + 1)) ≤ ca + 1 + 7; omega) (by show cb + 0 + (0 + (0 + 19695 + 11)) ≤ cb + 6 + 19706; omega) dL_law_1892 (T true 0 v _ μ9 μM' (fun _ => rfl) hr' (h0.trans (by decide)) (fun _ => rfl) hi)
    · obtain ⟨μ9, hf, hi⟩ := hk μX (fun _ _ => rfl)
      exact L_wrap (pc := 1892) kwL_225 (tw_few (few_true a1 a2 a3 a4 a5 a6 a7 hf)) (by decide) rfl rfl (Or.inl rfl) (by show ca + 0 + (0 + 0) ≤ ca + 1 + 0; omega) (by show cb + 0 + (0 + 0) ≤ cb + 6 + 0; omega) dL_law_1892 (T true 0 v _ μ9 μM' (fun _ => rfl) hr' (h0.trans (by decide)) (fun _ => rfl) hi)
