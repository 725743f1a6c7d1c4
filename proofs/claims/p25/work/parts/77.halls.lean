/-! ===== the law's fixed halls hold ===== -/
section HALLS
variable {b de mi L : Nat} {xs : Nat → Int32} {μ : zM} {Q : zRes → zM → Prop}
theorem G75 (bg : zBg b de L xs 0 0 μ) (hq : ∀ μ', zBg b de L xs 5000 60000 μ' → Q (.inl (some (.int 1))) μ') : zCall de mi 75 [] μ Q := by
  show zH de mi 75 0 [none] [] μ Q
  refine znewH (show zbv 75 [(0, .new 8, 3, 6, 6, 0, [45, 46, 24]), (3, .dup, 4, 0, 0, 0, []), (4, .invokespecial 92, 7, 15, 1, 101, [0, 47, 48, 0, 49, 24]), (7, .astore_n 0, 8, 0, 0, 0, [])] 0 = true by decide +kernel) bg (by decide) (fun h lc' μ' s hl hd => ?_)
  exact zrun_r (ρ := fun _ => 0) zc75 zr75 (zlm1 hl hd) (zRl0 s) hq
theorem G76 (bg : zBg b de L xs 5000 60000 μ) (hq : ∀ μ', zBg b de L xs 20000 240000 μ' → Q (.inl (some (.int 1))) μ') : zCall de mi 76 [] μ Q := by
  show zH de mi 76 0 [none, none, none] [] μ Q
  refine znewH (show zbv 76 [(0, .new 8, 3, 6, 6, 0, [45, 46, 24]), (3, .dup, 4, 0, 0, 0, []), (4, .invokespecial 92, 7, 15, 1, 101, [0, 47, 48, 0, 49, 24]), (7, .astore_n 0, 8, 0, 0, 0, [])] 0 = true by decide +kernel) bg (by decide) (fun h lc1 μ1 s1 hl1 hd1 => ?_)
  refine zrun_n (ρ := fun _ => 0) zc76 zr76a (zlm1 hl1 hd1) (zRl0 s1) (fun lc2 μ2 hl2 bg2 => ?_)
  have k2 : lc2.length = 3 := hl2.trans hl1
  refine znewH (show zbv 76 [(195, .new 8, 198, 6, 6, 0, [45, 46, 24]), (198, .dup, 199, 0, 0, 0, []), (199, .invokespecial 92, 202, 15, 1, 101, [0, 47, 48, 0, 49, 24]), (202, .astore_n 1, 203, 1, 0, 0, [])] 195 = true by decide +kernel) bg2 (by rw [k2]; decide) (fun h lc3 μ3 s3 hl3 hd3 => ?_)
  refine zrun_n (ρ := fun _ => 0) zc76 zr76b (zlm1 (hl3.trans k2) hd3) (zRl0 s3) (fun lc4 μ4 hl4 bg4 => ?_)
  have k4 : lc4.length = 3 := hl4.trans (hl3.trans k2)
  refine znewH (show zbv 76 [(405, .new 8, 408, 6, 6, 0, [45, 46, 24]), (408, .dup, 409, 0, 0, 0, []), (409, .invokespecial 92, 412, 15, 1, 101, [0, 47, 48, 0, 49, 24]), (412, .astore_n 2, 413, 2, 0, 0, [])] 405 = true by decide +kernel) bg4 (by rw [k4]; decide) (fun h lc5 μ5 s5 hl5 hd5 => ?_)
  exact zrun_r (ρ := fun _ => 0) zc76 zr76c (zlm1 (hl5.trans k4) hd5) (zRl0 s5) hq
theorem G77 (bg : zBg b de L xs 20000 240000 μ) (hq : ∀ μ', zBg b de L xs 35000 420000 μ' → Q (.inl (some (.int 1))) μ') : zCall de mi 77 [] μ Q := by
  show zH de mi 77 0 [none, none, none, none] [] μ Q
  refine znewH (show zbv 77 [(0, .new 8, 3, 6, 6, 0, [45, 46, 24]), (3, .dup, 4, 0, 0, 0, []), (4, .invokespecial 92, 7, 15, 1, 101, [0, 47, 48, 0, 49, 24]), (7, .astore_n 0, 8, 0, 0, 0, [])] 0 = true by decide +kernel) bg (by decide) (fun h lc1 μ1 s1 hl1 hd1 => ?_)
  refine zrun_n (ρ := fun _ => 0) zc77 zr77a (zlm1 hl1 hd1) (zRl0 s1) (fun lc2 μ2 hl2 bg2 => ?_)
  have k2 : lc2.length = 4 := hl2.trans hl1
  refine znewH (show zbv 77 [(383, .new 8, 386, 6, 6, 0, [45, 46, 24]), (386, .dup, 387, 0, 0, 0, []), (387, .invokespecial 92, 390, 15, 1, 101, [0, 47, 48, 0, 49, 24]), (390, .astore_n 1, 391, 1, 0, 0, [])] 383 = true by decide +kernel) bg2 (by rw [k2]; decide) (fun h lc3 μ3 s3 hl3 hd3 => ?_)
  refine zrun_n (ρ := fun _ => 0) zc77 zr77b (zlm1 (hl3.trans k2) hd3) (zRl0 s3) (fun lc4 μ4 hl4 bg4 => ?_)
  have k4 : lc4.length = 4 := hl4.trans (hl3.trans k2)
  refine znewH (show zbv 77 [(654, .new 8, 657, 6, 6, 0, [45, 46, 24]), (657, .dup, 658, 0, 0, 0, []), (658, .invokespecial 92, 661, 15, 1, 101, [0, 47, 48, 0, 49, 24]), (661, .astore_n 2, 662, 2, 0, 0, [])] 654 = true by decide +kernel) bg4 (by rw [k4]; decide) (fun h lc5 μ5 s5 hl5 hd5 => ?_)
  exact zrun_r (ρ := fun _ => 0) zc77 zr77c (zlm1 (hl5.trans k4) hd5) (zRl0 s5) hq
end HALLS
