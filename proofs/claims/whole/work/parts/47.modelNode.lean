theorem MoC.wq {w : Nat → Nat → Int} {u : Nat → Int} {A : AS} {iw qu : Nat → Int} (h : MoC w u A) : MoC (fU (fU w 8 iw) 9 qu) u A := ⟨h.1, h.2.1, h.2.2.1, h.2.2.2.1, h.2.2.2.2.1, h.2.2.2.2.2⟩
theorem c_X9_node (sz : Nat) {h : AH} {m : Nat} {A : AS} (hMo : MoR h m A) (hIn : In2 A) (hIv : InvS A.2.2.2.2) {y v : Int} (hy : inR y) (hv : inR v) : CC mX9_node 4 0 0 [.ref m, .int (zI y), .int (zI v)] sz h (QI (fun z' h' => z' = spNod A.2.2.2.2 y v ∧ MoR h' m A ∧ Fr h h' m (m + 17))) := by
  refine CC.intro [some (.ref m), some (.int (zI y)), some (.int (zI v))] pfX9_node rfl rfl ?_
  obtain ⟨w, u, hM, hC⟩ := hMo
  have hM0 := hM
  unfold MoW at hM
  have hC0 := hC
  have hIn0 := hIn
  obtain ⟨k1, k2, k3, k4, k5, k6⟩ := hC
  obtain ⟨i1, i2, i3, i4, i5, i6⟩ := hIn
  have hB := i4.1
  have hL := hB.1
  have hKB := i4.2.2.1
  have hd40 := hKB.1
  refine x_aload_n dX9_node_0 rfl ?_
  refine x_iload_n dX9_node_1 rfl ?_
  refine p_V dX9_node_2 lX9_158 (c_X9_isNode sz hM0 k1.1 k1.2.2.1 k1.2.2.2.1 hKB hy) hM.1 rfl rfl rfl rfl (by decide) ?_
  refine x_ifB_ne dX9_node_5 (fun qc5q => ?_) (fun qc5q => ?_)
  · have hq := qc5q.2
    obtain ⟨n, rfl⟩ : ∃ n : Nat, y = (n : Int) := ⟨y.toNat, by omega⟩
    have hn1 : 1 ≤ n := by omega
    have hn2 : n ≤ A.2.2.2.2.1 := by omega
    have htx := k1.2.2.2.2 n hn1 hn2
    refine x_iload_n dX9_node_11 rfl ?_
    by_cases hsw : v < 0 ∨ 7 < v
    · refine x_tableOut 115 dX9_node_12 ⟨by omega, by omega⟩ hsw (by decide) ?_
      refine x_bipush dX9_node_115 (by decide) ?_
      refine x_ireturn dX9_node_117 rfl ?_
      refine ⟨_, rfl, ?_, ⟨_, _, hM0, hC0⟩, Fr.rf⟩
      unfold spNod
      rw [if_neg hq, if_neg (by omega), if_neg (by omega), if_neg (by omega), if_neg (by omega), if_neg (by omega), if_neg (by omega), if_neg (by omega), if_neg (by omega)]
    · rcases (show v = 0 ∨ v = 1 ∨ v = 2 ∨ v = 3 ∨ v = 4 ∨ v = 5 ∨ v = 6 ∨ v = 7 by omega) with rfl | rfl | rfl | rfl | rfl | rfl | rfl | rfl
      · refine x_tableIn 0 60 dX9_node_12 ⟨by decide, by decide⟩ (by decide) (by decide) rfl (by decide) ?_
        refine x_aload_n dX9_node_60 rfl ?_
        refine x_iload_n dX9_node_61 rfl ?_
        refine p_V dX9_node_62 lX9_186 (c_X9_parents sz hM0 k1.1 k1.2.2.1 k1.2.2.2.1 hKB (y := n) (by omega)) hM.1 rfl rfl rfl rfl (by decide) ?_
        refine x_ireturn dX9_node_65 rfl ?_
        refine ⟨_, rfl, ?_, ⟨_, _, hM0, hC0⟩, Fr.rf⟩
        unfold spNod
        rw [if_neg hq, if_pos rfl]
        exact (hIv.pa n).symm
      · refine x_tableIn 1 66 dX9_node_12 ⟨by decide, by decide⟩ (by decide) (by decide) rfl (by decide) ?_
        refine x_aload_n dX9_node_66 rfl ?_
        refine x_iload_n dX9_node_67 rfl ?_
        refine p_V dX9_node_68 lX9_139 (c_X9_placesOf sz hM0 k1.2.1 hB hy) hM.1 rfl rfl rfl rfl (by decide) ?_
        refine x_ireturn dX9_node_71 rfl ?_
        refine ⟨_, rfl, ?_, ⟨_, _, hM0, hC0⟩, Fr.rf⟩
        unfold spNod
        rw [if_neg hq, if_neg (by omega), if_pos rfl]
      · refine x_tableIn 2 72 dX9_node_12 ⟨by decide, by decide⟩ (by decide) (by decide) rfl (by decide) ?_
        refine x_aload_n dX9_node_72 rfl ?_
        refine x_iload_n dX9_node_73 rfl ?_
        refine p_V dX9_node_74 lX9_189 (c_X9_seenPlaces sz hM0 k1.2.1 hB hy) hM.1 rfl rfl rfl rfl (by decide) ?_
        refine x_ireturn dX9_node_77 rfl ?_
        refine ⟨_, rfl, ?_, ⟨_, _, hM0, hC0⟩, Fr.rf⟩
        unfold spNod
        rw [if_neg hq, if_neg (by omega), if_neg (by omega), if_pos rfl]
      · refine x_tableIn 3 78 dX9_node_12 ⟨by decide, by decide⟩ (by decide) (by decide) rfl (by decide) ?_
        refine x_aload_n dX9_node_78 rfl ?_
        refine x_iload_n dX9_node_79 rfl ?_
        refine x_bipush dX9_node_80 (by decide) ?_
        refine p_V dX9_node_82 lX9_64 (c_X9_of sz hM0 (x := (n : Int)) (v := 11) (by omega)) hM.1 rfl rfl rfl rfl (by decide) ?_
        refine x_ireturn dX9_node_85 rfl ?_
        refine ⟨_, rfl, ?_, ⟨_, _, hM0, hC0⟩, Fr.rf⟩
        unfold spNod
        rw [if_neg hq, if_neg (by omega), if_neg (by omega), if_neg (by omega), if_pos rfl]
        exact k1.2.2.2.1.at (x := (n : Int)) (by omega) (by omega)
      · refine x_tableIn 4 86 dX9_node_12 ⟨by decide, by decide⟩ (by decide) (by decide) rfl (by decide) ?_
        refine x_aload_n dX9_node_86 rfl ?_
        refine x_iload_n dX9_node_87 rfl ?_
        refine x_bipush dX9_node_88 (by decide) ?_
        refine p_V dX9_node_90 lX9_64 (c_X9_of sz hM0 (x := (n : Int)) (v := 10) (by omega)) hM.1 rfl rfl rfl rfl (by decide) ?_
        refine x_ireturn dX9_node_93 rfl ?_
        refine ⟨_, rfl, ?_, ⟨_, _, hM0, hC0⟩, Fr.rf⟩
        unfold spNod
        rw [if_neg hq, if_neg (by omega), if_neg (by omega), if_neg (by omega), if_neg (by omega), if_pos rfl]
        rw [show (2 + 52 * (n : Int) + 10).toNat = 2 + 52 * n + 10 by omega]
        exact htx.2.2
      · refine x_tableIn 5 94 dX9_node_12 ⟨by decide, by decide⟩ (by decide) (by decide) rfl (by decide) ?_
        refine x_aload_n dX9_node_94 rfl ?_
        refine x_iload_n dX9_node_95 rfl ?_
        refine p_V dX9_node_96 lX9_192 (c_X9_firstRow sz hM0 k1.2.1 hB hy) hM.1 rfl rfl rfl rfl (by decide) ?_
        refine x_ireturn dX9_node_99 rfl ?_
        refine ⟨_, rfl, ?_, ⟨_, _, hM0, hC0⟩, Fr.rf⟩
        unfold spNod
        rw [if_neg hq, if_neg (by omega), if_neg (by omega), if_neg (by omega), if_neg (by omega), if_neg (by omega), if_pos rfl]
      · refine x_tableIn 6 100 dX9_node_12 ⟨by decide, by decide⟩ (by decide) (by decide) rfl (by decide) ?_
        refine x_aload_n dX9_node_100 rfl ?_
        refine x_iload_n dX9_node_101 rfl ?_
        refine x_iconst dX9_node_102 ?_
        refine p_V dX9_node_103 lX9_64 (c_X9_of sz hM0 (x := (n : Int)) (v := 1) (by omega)) hM.1 rfl rfl rfl rfl (by decide) ?_
        refine x_ireturn dX9_node_106 rfl ?_
        refine ⟨_, rfl, ?_, ⟨_, _, hM0, hC0⟩, Fr.rf⟩
        unfold spNod
        rw [if_neg hq, if_neg (by omega), if_neg (by omega), if_neg (by omega), if_neg (by omega), if_neg (by omega), if_neg (by omega), if_pos rfl]
        rw [show (2 + 52 * (n : Int) + 1).toNat = 2 + 52 * n + 1 by omega]
        exact htx.1
      · refine x_tableIn 7 107 dX9_node_12 ⟨by decide, by decide⟩ (by decide) (by decide) rfl (by decide) ?_
        refine x_aload_n dX9_node_107 rfl ?_
        refine x_iload_n dX9_node_108 rfl ?_
        refine i_V dX9_node_109 lX9_129 (c_X9_layWithin sz hM0 k1.2.2.2.1 hKB (x := n) (by omega)) hM.1 rfl rfl rfl rfl (by decide) (fun z7 h1 ⟨iw, qu, Q, hQ, hQd, hiw, hz7, hM1, hF1⟩ => ?_)
        refine x_iconst dX9_node_112 ?_
        refine x_isub dX9_node_113 ?_
        refine x_ireturn dX9_node_114 rfl ?_
        refine ⟨_, rfl, ?_, ⟨_, _, hM1, hC0.wq⟩, hF1⟩
        unfold spNod
        rw [if_neg hq, if_neg (by omega), if_neg (by omega), if_neg (by omega), if_neg (by omega), if_neg (by omega), if_neg (by omega), if_neg (by omega), if_pos rfl]
        rw [hIv.pw hq hQ, hz7]
  · refine x_bipush dX9_node_8 (by decide) ?_
    refine x_ireturn dX9_node_10 rfl ?_
    refine ⟨_, rfl, ?_, ⟨_, _, hM0, hC0⟩, Fr.rf⟩
    unfold spNod
    rw [if_pos]
    rcases pFst_r A.2.2.2.2.2.2.2.2 y with q | ⟨q1, q2, q3⟩
    · exact q.1
    · exfalso
      have h9 := hIv.nd q1 q2
      rw [q3] at h9
      exact qc5q ⟨⟨by omega, by omega⟩, by omega⟩
theorem c_X9_count (sz : Nat) {h : AH} {m : Nat} {A : AS} (hMo : MoR h m A) (hIn : In2 A) (hIv : InvS A.2.2.2.2) {v : Int} (hv : inR v) : CC mX9_count 5 0 0 [.ref m, .int (zI v)] sz h (QR (spCnt A.1 A.2.1 A.2.2.2.2 v) h) := by
  refine CC.intro [some (.ref m), some (.int (zI v))] pfX9_count rfl rfl ?_
  obtain ⟨w, u, hM, hC⟩ := hMo
  have hM0 := hM
  unfold MoW at hM
  have hC0 := hC
  have hIn0 := hIn
  obtain ⟨k1, k2, k3, k4, k5, k6⟩ := hC
  obtain ⟨i1, i2, i3, i4, i5, i6⟩ := hIn
  have hB := i4.1
  have hKB := i4.2.2.1
  refine x_iload_n dX9_count_0 rfl ?_
  by_cases hsw : v < 0 ∨ 8 < v
  · refine x_tableOut 103 dX9_count_1 ⟨by omega, by omega⟩ hsw (by decide) ?_
    refine x_bipush dX9_count_103 (by decide) ?_
    refine x_ireturn dX9_count_105 rfl ?_
    refine ⟨?_, rfl⟩
    unfold spCnt
    rw [if_neg (by omega), if_neg (by omega), if_neg (by omega), if_neg (by omega), if_neg (by omega), if_neg (by omega), if_neg (by omega), if_neg (by omega), if_neg (by omega)]
  · rcases (show v = 0 ∨ v = 1 ∨ v = 2 ∨ v = 3 ∨ v = 4 ∨ v = 5 ∨ v = 6 ∨ v = 7 ∨ v = 8 by omega) with rfl | rfl | rfl | rfl | rfl | rfl | rfl | rfl | rfl
    · refine x_tableIn 0 52 dX9_count_1 ⟨by decide, by decide⟩ (by decide) (by decide) rfl (by decide) ?_
      refine x_aload_n dX9_count_52 rfl ?_
      refine x_iconst dX9_count_53 ?_
      refine p_V dX9_count_54 lX9_195 (c_X9_nodes sz hM0 k1.1 k1.2.2.1 k1.2.2.2.1 hKB (b := 0) (Or.inl rfl)) hM.1 rfl rfl rfl rfl (by decide) ?_
      refine x_ireturn dX9_count_57 rfl ?_
      refine ⟨?_, rfl⟩
      unfold spCnt
      rw [if_pos rfl]
      rw [hIv.n0]
    · refine x_tableIn 1 58 dX9_count_1 ⟨by decide, by decide⟩ (by decide) (by decide) rfl (by decide) ?_
      refine x_aload_n dX9_count_58 rfl ?_
      refine s_get dX9_count_59 fX9_7 hM rfl ?_
      refine x_iconst dX9_count_62 ?_
      refine s_iald dX9_count_63 hM rfl rfl ⟨by omega, by omega⟩ ?_
      refine x_ireturn dX9_count_64 rfl ?_
      refine ⟨?_, rfl⟩
      unfold spCnt
      rw [if_neg (by omega), if_pos rfl]
      rw [show w 0 (0 : Int).toNat = _ from k1.1]
    · refine x_tableIn 2 65 dX9_count_1 ⟨by decide, by decide⟩ (by decide) (by decide) rfl (by decide) ?_
      refine x_aload_n dX9_count_65 rfl ?_
      refine s_get dX9_count_66 fX9_7 hM rfl ?_
      refine x_iconst dX9_count_69 ?_
      refine s_iald dX9_count_70 hM rfl rfl ⟨by omega, by omega⟩ ?_
      refine x_ireturn dX9_count_71 rfl ?_
      refine ⟨?_, rfl⟩
      unfold spCnt
      rw [if_neg (by omega), if_neg (by omega), if_pos rfl]
      rw [show w 0 (1 : Int).toNat = _ from k1.2.1.1]
    · refine x_tableIn 3 72 dX9_count_1 ⟨by decide, by decide⟩ (by decide) (by decide) rfl (by decide) ?_
      refine x_aload_n dX9_count_72 rfl ?_
      refine p_V dX9_count_73 lX9_154 (c_X9_rows sz hM0 k1.2.1 hB) hM.1 rfl rfl rfl rfl (by decide) ?_
      refine x_ireturn dX9_count_76 rfl ?_
      refine ⟨?_, rfl⟩
      unfold spCnt
      rw [if_neg (by omega), if_neg (by omega), if_neg (by omega), if_pos rfl]
      rfl
    · refine x_tableIn 4 77 dX9_count_1 ⟨by decide, by decide⟩ (by decide) (by decide) rfl (by decide) ?_
      refine x_aload_n dX9_count_77 rfl ?_
      refine p_V dX9_count_78 lX9_199 (c_X9_foldedPlaces sz hM0 k1.2.1 hB) hM.1 rfl rfl rfl rfl (by decide) ?_
      refine x_ireturn dX9_count_81 rfl ?_
      refine ⟨?_, rfl⟩
      unfold spCnt
      rw [if_neg (by omega), if_neg (by omega), if_neg (by omega), if_neg (by omega), if_pos rfl]
    · refine x_tableIn 5 82 dX9_count_1 ⟨by decide, by decide⟩ (by decide) (by decide) rfl (by decide) ?_
      refine x_aload_n dX9_count_82 rfl ?_
      refine x_iconst dX9_count_83 ?_
      refine p_V dX9_count_84 lX9_195 (c_X9_nodes sz hM0 k1.1 k1.2.2.1 k1.2.2.2.1 hKB (b := 1) (Or.inr rfl)) hM.1 rfl rfl rfl rfl (by decide) ?_
      refine x_ireturn dX9_count_87 rfl ?_
      refine ⟨?_, rfl⟩
      unfold spCnt
      rw [if_neg (by omega), if_neg (by omega), if_neg (by omega), if_neg (by omega), if_neg (by omega), if_pos rfl]
      rw [hIv.n1]
    · refine x_tableIn 6 88 dX9_count_1 ⟨by decide, by decide⟩ (by decide) (by decide) rfl (by decide) ?_
      refine x_aload_n dX9_count_88 rfl ?_
      refine p_V dX9_count_89 lX9_202 (c_X9_greatestLevel sz hM0 k1.2.1 hB) hM.1 rfl rfl rfl rfl (by decide) ?_
      refine x_ireturn dX9_count_92 rfl ?_
      refine ⟨?_, rfl⟩
      unfold spCnt
      rw [if_neg (by omega), if_neg (by omega), if_neg (by omega), if_neg (by omega), if_neg (by omega), if_neg (by omega), if_pos rfl]
    · refine x_tableIn 7 93 dX9_count_1 ⟨by decide, by decide⟩ (by decide) (by decide) rfl (by decide) ?_
      refine x_aload_n dX9_count_93 rfl ?_
      refine s_get dX9_count_94 fX9_60 hM rfl ?_
      refine x_ireturn dX9_count_97 rfl ?_
      refine ⟨?_, rfl⟩
      unfold spCnt
      rw [if_neg (by omega), if_neg (by omega), if_neg (by omega), if_neg (by omega), if_neg (by omega), if_neg (by omega), if_neg (by omega), if_pos rfl]
      rw [k3]
    · refine x_tableIn 8 98 dX9_count_1 ⟨by decide, by decide⟩ (by decide) (by decide) rfl (by decide) ?_
      refine x_aload_n dX9_count_98 rfl ?_
      refine s_get dX9_count_99 fX9_95 hM rfl ?_
      refine x_ireturn dX9_count_102 rfl ?_
      refine ⟨?_, rfl⟩
      unfold spCnt
      rw [if_neg (by omega), if_neg (by omega), if_neg (by omega), if_neg (by omega), if_neg (by omega), if_neg (by omega), if_neg (by omega), if_neg (by omega), if_pos rfl]
      rw [k6.1]
