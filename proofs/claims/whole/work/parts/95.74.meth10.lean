theorem dX10_read_0 : decode cX10_read 0 = .ok (.aload_n 0, 1) := by decide +kernel
theorem dX10_read_1 : decode cX10_read 1 = .ok (.aload_n 0, 1) := by decide +kernel
theorem dX10_read_2 : decode cX10_read 2 = .ok (.getfield 167, 3) := by decide +kernel
theorem dX10_read_5 : decode cX10_read 5 = .ok (.putfield 173, 3) := by decide +kernel
theorem dX10_read_8 : decode cX10_read 8 = .ok (.iconst 0, 1) := by decide +kernel
theorem dX10_read_9 : decode cX10_read 9 = .ok (.istore_n 1, 1) := by decide +kernel
theorem dX10_read_10 : decode cX10_read 10 = .ok (.iload_n 1, 1) := by decide +kernel
theorem dX10_read_11 : decode cX10_read 11 = .ok (.aload_n 0, 1) := by decide +kernel
theorem dX10_read_12 : decode cX10_read 12 = .ok (.getfield 173, 3) := by decide +kernel
theorem dX10_read_15 : decode cX10_read 15 = .ok (.if_icmp .ge 21, 3) := by decide +kernel
theorem dX10_read_18 : decode cX10_read 18 = .ok (.aload_n 0, 1) := by decide +kernel
theorem dX10_read_19 : decode cX10_read 19 = .ok (.getfield 17, 3) := by decide +kernel
theorem dX10_read_22 : decode cX10_read 22 = .ok (.iload_n 1, 1) := by decide +kernel
theorem dX10_read_23 : decode cX10_read 23 = .ok (.aload_n 0, 1) := by decide +kernel
theorem dX10_read_24 : decode cX10_read 24 = .ok (.getfield 13, 3) := by decide +kernel
theorem dX10_read_27 : decode cX10_read 27 = .ok (.iload_n 1, 1) := by decide +kernel
theorem dX10_read_28 : decode cX10_read 28 = .ok (.baload, 1) := by decide +kernel
theorem dX10_read_29 : decode cX10_read 29 = .ok (.bastore, 1) := by decide +kernel
theorem dX10_read_30 : decode cX10_read 30 = .ok (.iinc 1 1, 3) := by decide +kernel
theorem dX10_read_33 : decode cX10_read 33 = .ok (.goto (-23), 3) := by decide +kernel
theorem dX10_read_36 : decode cX10_read 36 = .ok (.aload_n 0, 1) := by decide +kernel
theorem dX10_read_37 : decode cX10_read 37 = .ok (.iconst 0, 1) := by decide +kernel
theorem dX10_read_38 : decode cX10_read 38 = .ok (.putfield 167, 3) := by decide +kernel
theorem dX10_read_41 : decode cX10_read 41 = .ok (.aload_n 0, 1) := by decide +kernel
theorem dX10_read_42 : decode cX10_read 42 = .ok (.invokevirtual 224, 3) := by decide +kernel
theorem dX10_read_45 : decode cX10_read 45 = .ok (.aload_n 0, 1) := by decide +kernel
theorem dX10_read_46 : decode cX10_read 46 = .ok (.iconst 0, 1) := by decide +kernel
theorem dX10_read_47 : decode cX10_read 47 = .ok (.putfield 203, 3) := by decide +kernel
theorem dX10_read_50 : decode cX10_read 50 = .ok (.aload_n 0, 1) := by decide +kernel
theorem dX10_read_51 : decode cX10_read 51 = .ok (.iconst 0, 1) := by decide +kernel
theorem dX10_read_52 : decode cX10_read 52 = .ok (.putfield 227, 3) := by decide +kernel
theorem dX10_read_55 : decode cX10_read 55 = .ok (.aload_n 0, 1) := by decide +kernel
theorem dX10_read_56 : decode cX10_read 56 = .ok (.iconst 0, 1) := by decide +kernel
theorem dX10_read_57 : decode cX10_read 57 = .ok (.putfield 200, 3) := by decide +kernel
theorem dX10_read_60 : decode cX10_read 60 = .ok (.aload_n 0, 1) := by decide +kernel
theorem dX10_read_61 : decode cX10_read 61 = .ok (.iconst 0, 1) := by decide +kernel
theorem dX10_read_62 : decode cX10_read 62 = .ok (.putfield 209, 3) := by decide +kernel
theorem dX10_read_65 : decode cX10_read 65 = .ok (.aload_n 0, 1) := by decide +kernel
theorem dX10_read_66 : decode cX10_read 66 = .ok (.iconst 1, 1) := by decide +kernel
theorem dX10_read_67 : decode cX10_read 67 = .ok (.aload_n 0, 1) := by decide +kernel
theorem dX10_read_68 : decode cX10_read 68 = .ok (.getfield 230, 3) := by decide +kernel
theorem dX10_read_71 : decode cX10_read 71 = .ok (.isub, 1) := by decide +kernel
theorem dX10_read_72 : decode cX10_read 72 = .ok (.putfield 233, 3) := by decide +kernel
theorem dX10_read_75 : decode cX10_read 75 = .ok (.aload_n 0, 1) := by decide +kernel
theorem dX10_read_76 : decode cX10_read 76 = .ok (.iconst 0, 1) := by decide +kernel
theorem dX10_read_77 : decode cX10_read 77 = .ok (.putfield 236, 3) := by decide +kernel
theorem dX10_read_80 : decode cX10_read 80 = .ok (.aload_n 0, 1) := by decide +kernel
theorem dX10_read_81 : decode cX10_read 81 = .ok (.aload_n 0, 1) := by decide +kernel
theorem dX10_read_82 : decode cX10_read 82 = .ok (.getfield 233, 3) := by decide +kernel
theorem dX10_read_85 : decode cX10_read 85 = .ok (.invokevirtual 149, 3) := by decide +kernel
theorem dX10_read_88 : decode cX10_read 88 = .ok (.aload_n 0, 1) := by decide +kernel
theorem dX10_read_89 : decode cX10_read 89 = .ok (.sipush 130, 3) := by decide +kernel
theorem dX10_read_92 : decode cX10_read 92 = .ok (.aload_n 0, 1) := by decide +kernel
theorem dX10_read_93 : decode cX10_read 93 = .ok (.getfield 233, 3) := by decide +kernel
theorem dX10_read_96 : decode cX10_read 96 = .ok (.imul, 1) := by decide +kernel
theorem dX10_read_97 : decode cX10_read 97 = .ok (.putfield 239, 3) := by decide +kernel
theorem dX10_read_100 : decode cX10_read 100 = .ok (.aload_n 0, 1) := by decide +kernel
theorem dX10_read_101 : decode cX10_read 101 = .ok (.sipush 420, 3) := by decide +kernel
theorem dX10_read_104 : decode cX10_read 104 = .ok (.aload_n 0, 1) := by decide +kernel
theorem dX10_read_105 : decode cX10_read 105 = .ok (.getfield 233, 3) := by decide +kernel
theorem dX10_read_108 : decode cX10_read 108 = .ok (.imul, 1) := by decide +kernel
theorem dX10_read_109 : decode cX10_read 109 = .ok (.putfield 242, 3) := by decide +kernel
theorem dX10_read_112 : decode cX10_read 112 = .ok (.aload_n 0, 1) := by decide +kernel
theorem dX10_read_113 : decode cX10_read 113 = .ok (.getfield 200, 3) := by decide +kernel
theorem dX10_read_116 : decode cX10_read 116 = .ok (.ifCond .ne 18, 3) := by decide +kernel
theorem dX10_read_119 : decode cX10_read 119 = .ok (.aload_n 0, 1) := by decide +kernel
theorem dX10_read_120 : decode cX10_read 120 = .ok (.iconst 0, 1) := by decide +kernel
theorem dX10_read_121 : decode cX10_read 121 = .ok (.invokevirtual 218, 3) := by decide +kernel
theorem dX10_read_124 : decode cX10_read 124 = .ok (.ifCond .ne 10, 3) := by decide +kernel
theorem dX10_read_127 : decode cX10_read 127 = .ok (.aload_n 0, 1) := by decide +kernel
theorem dX10_read_128 : decode cX10_read 128 = .ok (.invokevirtual 245, 3) := by decide +kernel
theorem dX10_read_131 : decode cX10_read 131 = .ok (.goto (-19), 3) := by decide +kernel
theorem dX10_read_134 : decode cX10_read 134 = .ok (.aload_n 0, 1) := by decide +kernel
theorem dX10_read_135 : decode cX10_read 135 = .ok (.aload_n 0, 1) := by decide +kernel
theorem dX10_read_136 : decode cX10_read 136 = .ok (.getfield 200, 3) := by decide +kernel
theorem dX10_read_139 : decode cX10_read 139 = .ok (.ifCond .le 10, 3) := by decide +kernel
theorem dX10_read_142 : decode cX10_read 142 = .ok (.aload_n 0, 1) := by decide +kernel
theorem dX10_read_143 : decode cX10_read 143 = .ok (.getfield 206, 3) := by decide +kernel
theorem dX10_read_146 : decode cX10_read 146 = .ok (.goto 18, 3) := by decide +kernel
theorem dX10_read_149 : decode cX10_read 149 = .ok (.aload_n 0, 1) := by decide +kernel
theorem dX10_read_150 : decode cX10_read 150 = .ok (.getfield 209, 3) := by decide +kernel
theorem dX10_read_153 : decode cX10_read 153 = .ok (.ifCond .le 10, 3) := by decide +kernel
theorem dX10_read_156 : decode cX10_read 156 = .ok (.aload_n 0, 1) := by decide +kernel
theorem dX10_read_157 : decode cX10_read 157 = .ok (.getfield 212, 3) := by decide +kernel
theorem dX10_read_160 : decode cX10_read 160 = .ok (.goto 4, 3) := by decide +kernel
theorem dX10_read_163 : decode cX10_read 163 = .ok (.iconst (-1), 1) := by decide +kernel
theorem dX10_read_164 : decode cX10_read 164 = .ok (.putfield 37, 3) := by decide +kernel
theorem dX10_read_167 : decode cX10_read 167 = .ok (.aload_n 0, 1) := by decide +kernel
theorem dX10_read_168 : decode cX10_read 168 = .ok (.getfield 200, 3) := by decide +kernel
theorem dX10_read_171 : decode cX10_read 171 = .ok (.ifCond .le 8, 3) := by decide +kernel
theorem dX10_read_174 : decode cX10_read 174 = .ok (.aload_n 0, 1) := by decide +kernel
theorem dX10_read_175 : decode cX10_read 175 = .ok (.getfield 200, 3) := by decide +kernel
theorem dX10_read_178 : decode cX10_read 178 = .ok (.ireturn, 1) := by decide +kernel
theorem dX10_read_179 : decode cX10_read 179 = .ok (.aload_n 0, 1) := by decide +kernel
theorem dX10_read_180 : decode cX10_read 180 = .ok (.getfield 209, 3) := by decide +kernel
theorem dX10_read_183 : decode cX10_read 183 = .ok (.ifCond .le 8, 3) := by decide +kernel
theorem dX10_read_186 : decode cX10_read 186 = .ok (.aload_n 0, 1) := by decide +kernel
theorem dX10_read_187 : decode cX10_read 187 = .ok (.getfield 209, 3) := by decide +kernel
theorem dX10_read_190 : decode cX10_read 190 = .ok (.ireturn, 1) := by decide +kernel
theorem dX10_read_191 : decode cX10_read 191 = .ok (.aload_n 0, 1) := by decide +kernel
theorem dX10_read_192 : decode cX10_read 192 = .ok (.aload_n 0, 1) := by decide +kernel
theorem dX10_read_193 : decode cX10_read 193 = .ok (.getfield 233, 3) := by decide +kernel
theorem dX10_read_196 : decode cX10_read 196 = .ok (.putfield 230, 3) := by decide +kernel
theorem dX10_read_199 : decode cX10_read 199 = .ok (.aload_n 0, 1) := by decide +kernel
theorem dX10_read_200 : decode cX10_read 200 = .ok (.invokevirtual 161, 3) := by decide +kernel
theorem dX10_read_203 : decode cX10_read 203 = .ok (.aload_n 0, 1) := by decide +kernel
theorem dX10_read_204 : decode cX10_read 204 = .ok (.invokevirtual 164, 3) := by decide +kernel
theorem dX10_read_207 : decode cX10_read 207 = .ok (.aload_n 0, 1) := by decide +kernel
theorem dX10_read_208 : decode cX10_read 208 = .ok (.iconst 0, 1) := by decide +kernel
theorem dX10_read_209 : decode cX10_read 209 = .ok (.putfield 248, 3) := by decide +kernel
theorem dX10_read_212 : decode cX10_read 212 = .ok (.aload_n 0, 1) := by decide +kernel
theorem dX10_read_213 : decode cX10_read 213 = .ok (.iconst 0, 1) := by decide +kernel
theorem dX10_read_214 : decode cX10_read 214 = .ok (.putfield 251, 3) := by decide +kernel
theorem dX10_read_217 : decode cX10_read 217 = .ok (.iconst 0, 1) := by decide +kernel
theorem dX10_read_218 : decode cX10_read 218 = .ok (.istore_n 1, 1) := by decide +kernel
theorem dX10_read_219 : decode cX10_read 219 = .ok (.iload_n 1, 1) := by decide +kernel
theorem dX10_read_220 : decode cX10_read 220 = .ok (.iconst 3, 1) := by decide +kernel
theorem dX10_read_221 : decode cX10_read 221 = .ok (.if_icmp .ge 16, 3) := by decide +kernel
theorem dX10_read_224 : decode cX10_read 224 = .ok (.aload_n 0, 1) := by decide +kernel
theorem dX10_read_225 : decode cX10_read 225 = .ok (.getfield 143, 3) := by decide +kernel
theorem dX10_read_228 : decode cX10_read 228 = .ok (.iload_n 1, 1) := by decide +kernel
theorem dX10_read_229 : decode cX10_read 229 = .ok (.iconst 0, 1) := by decide +kernel
theorem dX10_read_230 : decode cX10_read 230 = .ok (.bastore, 1) := by decide +kernel
theorem dX10_read_231 : decode cX10_read 231 = .ok (.iinc 1 1, 3) := by decide +kernel
theorem dX10_read_234 : decode cX10_read 234 = .ok (.goto (-15), 3) := by decide +kernel
theorem dX10_read_237 : decode cX10_read 237 = .ok (.iconst 0, 1) := by decide +kernel
theorem dX10_read_238 : decode cX10_read 238 = .ok (.ireturn, 1) := by decide +kernel
set_option maxRecDepth 100000 in
set_option maxHeartbeats 4000000 in
theorem tX10_read_219 (G : gx) (fu : Nat) (h0 : mh) (v0 : Nat) (n : Nat) (v1 : Int32) (h : mh) : Ev lI G yX10_read cX10_read 2 (some .int) 8 h0 219 [(0, .ref (gB G + v0)), (1, .int v1)] [] h (itr (bX10_read_219 fu v0) n (v1, h)) := by
  refine ev_itr (P := fun (q : Int32 × mh) (R9 : Option (Int32 × mh)) => Ev lI G yX10_read cX10_read 2 (some .int) 8 h0 219 [(0, .ref (gB G + v0)), (1, .int q.1)] [] q.2 R9) (fun _ => ev_none) (fun k219 hk9 q => ?_) n (v1, h)
  obtain ⟨v1, h⟩ := q
  have hk219 : ∀ (v1 : Int32) (h : mh), Ev lI G yX10_read cX10_read 2 (some .int) 8 h0 219 [(0, .ref (gB G + v0)), (1, .int v1)] [] h (k219 (v1, h)) := fun v1 h => hk9 (v1, h)
  show Ev lI G yX10_read cX10_read 2 (some .int) 8 h0 219 [(0, .ref (gB G + v0)), (1, .int v1)] [] h (bX10_read_219 fu v0 k219 (v1, h))
  unfold bX10_read_219
  refine ev_step (st_iload_n (pc := 219) (j := 1) dX10_read_219 rfl rfl) ?_
  refine ev_step (st_iconst (pc := 220) dX10_read_220 ni_3) ?_
  refine ev_br (br_icmp_ge (tgt := 237) (pc := 221) dX10_read_221 (by decide)) (fun _ => ?_) (fun _ => ?_)
  · refine ev_step (st_iconst (pc := 237) dX10_read_237 ni_0) ?_
    exact ev_iret (pc := 238) dX10_read_238
  · refine ev_step (st_aload_n (pc := 224) (j := 0) dX10_read_224 rfl rfl) ?_
    refine ev_getR (pc := 225) k_X10_143 rfl dX10_read_225 (fun a1 => ?_)
    refine ev_step (st_iload_n (pc := 228) (j := 1) dX10_read_228 rfl rfl) ?_
    refine ev_step (st_iconst (pc := 229) dX10_read_229 ni_0) ?_
    refine ev_stz (pc := 230) dX10_read_230 (fun h2 => ?_)
    refine ev_step (st_inc (pc := 231) (j := 1) (ls' := [(1, .int (v1 + (1 : Int32))), (0, .ref (gB G + v0))]) dX10_read_231 rfl ni_1 (by decide) rfl) ?_
    refine ev_step (st_goto (pc := 234) (tgt := 219) dX10_read_234 (by decide)) ?_
    refine ev_sub (ls' := [(0, .ref (gB G + v0)), (1, .int (v1 + (1 : Int32)))]) [1, 0] rfl ?_
    exact hk219 (v1 + (1 : Int32)) h2
set_option maxRecDepth 100000 in
set_option maxHeartbeats 4000000 in
theorem tX10_read_164 (G : gx) (fu : Nat) (h0 : mh) (v0 : Nat) (v1 : Int32) (s0 : Nat) (s1 : Int32) (h : mh) : Ev lI G yX10_read cX10_read 2 (some .int) 8 h0 164 [(0, .ref (gB G + v0)), (1, .int v1)] [.int s1, .ref (gB G + s0)] h (fX10_read_164 fu v0 v1 s0 s1 h) := by
  unfold fX10_read_164
  refine ev_putI (pc := 164) (p_X10_37 _ rfl) rfl dX10_read_164 (fun h1 => ?_)
  refine ev_step (st_aload_n (pc := 167) (j := 0) dX10_read_167 rfl rfl) ?_
  refine ev_getI (pc := 168) k_X10_200 rfl dX10_read_168 (fun x2 => ?_)
  refine ev_br (br_if_le (tgt := 179) (pc := 171) dX10_read_171 (by decide)) (fun _ => ?_) (fun _ => ?_)
  · refine ev_step (st_aload_n (pc := 179) (j := 0) dX10_read_179 rfl rfl) ?_
    refine ev_getI (pc := 180) k_X10_209 rfl dX10_read_180 (fun x3 => ?_)
    refine ev_br (br_if_le (tgt := 191) (pc := 183) dX10_read_183 (by decide)) (fun _ => ?_) (fun _ => ?_)
    · refine ev_step (st_aload_n (pc := 191) (j := 0) dX10_read_191 rfl rfl) ?_
      refine ev_step (st_aload_n (pc := 192) (j := 0) dX10_read_192 rfl rfl) ?_
      refine ev_getI (pc := 193) k_X10_233 rfl dX10_read_193 (fun x4 => ?_)
      refine ev_putI (pc := 196) (p_X10_230 _ rfl) rfl dX10_read_196 (fun h5 => ?_)
      refine ev_step (st_aload_n (pc := 199) (j := 0) dX10_read_199 rfl rfl) ?_
      refine ev_ck (fun ha hS => ?_)
      refine ev_callV (iv_V (As := []) (st := []) (pc := 200) rfl m_X10_begins l_X10_161 i_X10_begins e_X10_begins ha hS rfl (Nat.le_of_ble_eq_true rfl) rfl dX10_read_200) (tX10_begins G fu v0 h5) (by decide) (by decide) (fun h6 => ?_)
      refine ev_step (st_aload_n (pc := 203) (j := 0) dX10_read_203 rfl rfl) ?_
      refine ev_ck (fun ha hS => ?_)
      refine ev_callV (iv_V (As := []) (st := []) (pc := 204) rfl m_X10_keepsRow l_X10_164 i_X10_keepsRow e_X10_keepsRow ha hS rfl (Nat.le_of_ble_eq_true rfl) rfl dX10_read_204) (tX10_keepsRow G fu v0 h6) (by decide) (by decide) (fun h7 => ?_)
      refine ev_step (st_aload_n (pc := 207) (j := 0) dX10_read_207 rfl rfl) ?_
      refine ev_step (st_iconst (pc := 208) dX10_read_208 ni_0) ?_
      refine ev_putI (pc := 209) (p_X10_248 _ rfl) rfl dX10_read_209 (fun h8 => ?_)
      refine ev_step (st_aload_n (pc := 212) (j := 0) dX10_read_212 rfl rfl) ?_
      refine ev_step (st_iconst (pc := 213) dX10_read_213 ni_0) ?_
      refine ev_putI (pc := 214) (p_X10_251 _ rfl) rfl dX10_read_214 (fun h9 => ?_)
      refine ev_step (st_iconst (pc := 217) dX10_read_217 ni_0) ?_
      refine ev_step (st_istore_n (pc := 218) (ls' := [(1, .int ((0 : Int32))), (0, .ref (gB G + v0))]) dX10_read_218 rfl (by decide) rfl) ?_
      refine ev_sub (ls' := [(0, .ref (gB G + v0)), (1, .int ((0 : Int32)))]) [1, 0] rfl ?_
      exact tX10_read_219 G fu h0 v0 fu ((0 : Int32)) h9
    · refine ev_step (st_aload_n (pc := 186) (j := 0) dX10_read_186 rfl rfl) ?_
      refine ev_getI (pc := 187) k_X10_209 rfl dX10_read_187 (fun x10 => ?_)
      exact ev_iret (pc := 190) dX10_read_190
  · refine ev_step (st_aload_n (pc := 174) (j := 0) dX10_read_174 rfl rfl) ?_
    refine ev_getI (pc := 175) k_X10_200 rfl dX10_read_175 (fun x11 => ?_)
    exact ev_iret (pc := 178) dX10_read_178
set_option maxRecDepth 100000 in
set_option maxHeartbeats 4000000 in
theorem tX10_read_134 (G : gx) (fu : Nat) (h0 : mh) (v0 : Nat) (v1 : Int32) (h : mh) : Ev lI G yX10_read cX10_read 2 (some .int) 8 h0 134 [(0, .ref (gB G + v0)), (1, .int v1)] [] h (fX10_read_134 fu v0 v1 h) := by
  unfold fX10_read_134
  refine ev_step (st_aload_n (pc := 134) (j := 0) dX10_read_134 rfl rfl) ?_
  refine ev_step (st_aload_n (pc := 135) (j := 0) dX10_read_135 rfl rfl) ?_
  refine ev_getI (pc := 136) k_X10_200 rfl dX10_read_136 (fun x1 => ?_)
  refine ev_br (br_if_le (tgt := 149) (pc := 139) dX10_read_139 (by decide)) (fun _ => ?_) (fun _ => ?_)
  · refine ev_step (st_aload_n (pc := 149) (j := 0) dX10_read_149 rfl rfl) ?_
    refine ev_getI (pc := 150) k_X10_209 rfl dX10_read_150 (fun x2 => ?_)
    refine ev_br (br_if_le (tgt := 163) (pc := 153) dX10_read_153 (by decide)) (fun _ => ?_) (fun _ => ?_)
    · refine ev_step (st_iconst (pc := 163) dX10_read_163 ni_m1) ?_
      refine ev_sub (ls' := [(0, .ref (gB G + v0)), (1, .int v1)]) [0, 1] rfl ?_
      exact tX10_read_164 G fu h0 v0 v1 v0 ((-1 : Int32)) h
    · refine ev_step (st_aload_n (pc := 156) (j := 0) dX10_read_156 rfl rfl) ?_
      refine ev_getI (pc := 157) k_X10_212 rfl dX10_read_157 (fun x3 => ?_)
      refine ev_step (st_goto (pc := 160) (tgt := 164) dX10_read_160 (by decide)) ?_
      refine ev_sub (ls' := [(0, .ref (gB G + v0)), (1, .int v1)]) [0, 1] rfl ?_
      exact tX10_read_164 G fu h0 v0 v1 v0 x3 h
  · refine ev_step (st_aload_n (pc := 142) (j := 0) dX10_read_142 rfl rfl) ?_
    refine ev_getI (pc := 143) k_X10_206 rfl dX10_read_143 (fun x4 => ?_)
    refine ev_step (st_goto (pc := 146) (tgt := 164) dX10_read_146 (by decide)) ?_
    refine ev_sub (ls' := [(0, .ref (gB G + v0)), (1, .int v1)]) [0, 1] rfl ?_
    exact tX10_read_164 G fu h0 v0 v1 v0 x4 h
set_option maxRecDepth 100000 in
set_option maxHeartbeats 4000000 in
theorem tX10_read_112 (G : gx) (fu : Nat) (h0 : mh) (v0 : Nat) (v1 : Int32) (n : Nat) (h : mh) : Ev lI G yX10_read cX10_read 2 (some .int) 8 h0 112 [(0, .ref (gB G + v0)), (1, .int v1)] [] h (itr (bX10_read_112 fu v0 v1) n (h)) := by
  refine ev_itr (P := fun (q : mh) (R9 : Option (Int32 × mh)) => Ev lI G yX10_read cX10_read 2 (some .int) 8 h0 112 [(0, .ref (gB G + v0)), (1, .int v1)] [] q R9) (fun _ => ev_none) (fun k112 hk9 h => ?_) n (h)
  have hk112 : ∀ (h : mh), Ev lI G yX10_read cX10_read 2 (some .int) 8 h0 112 [(0, .ref (gB G + v0)), (1, .int v1)] [] h (k112 (h)) := fun h => hk9 (h)
  show Ev lI G yX10_read cX10_read 2 (some .int) 8 h0 112 [(0, .ref (gB G + v0)), (1, .int v1)] [] h (bX10_read_112 fu v0 v1 k112 (h))
  unfold bX10_read_112
  refine ev_step (st_aload_n (pc := 112) (j := 0) dX10_read_112 rfl rfl) ?_
  refine ev_getI (pc := 113) k_X10_200 rfl dX10_read_113 (fun x1 => ?_)
  refine ev_br (br_if_ne (tgt := 134) (pc := 116) dX10_read_116 (by decide)) (fun _ => ?_) (fun _ => ?_)
  · refine ev_step (st_aload_n (pc := 119) (j := 0) dX10_read_119 rfl rfl) ?_
    refine ev_step (st_iconst (pc := 120) dX10_read_120 ni_0) ?_
    refine ev_ck (fun ha hS => ?_)
    refine ev_callI (iv_V (As := [.int ((0 : Int32))]) (st := []) (pc := 121) rfl m_X10_is l_X10_218 i_X10_is e_X10_is ha hS rfl (Nat.le_of_ble_eq_true rfl) rfl dX10_read_121) (tX10_is G fu v0 ((0 : Int32)) h) (by decide) (by decide) (fun x3 h2 => ?_)
    refine ev_br (br_if_ne (tgt := 134) (pc := 124) dX10_read_124 (by decide)) (fun _ => ?_) (fun _ => ?_)
    · refine ev_step (st_aload_n (pc := 127) (j := 0) dX10_read_127 rfl rfl) ?_
      refine ev_ck (fun ha hS => ?_)
      refine ev_callV (iv_V (As := []) (st := []) (pc := 128) rfl m_X10_tellOne l_X10_245 i_X10_tellOne e_X10_tellOne ha hS rfl (Nat.le_of_ble_eq_true rfl) rfl dX10_read_128) (tX10_tellOne G fu v0 h2) (by decide) (by decide) (fun h4 => ?_)
      refine ev_step (st_goto (pc := 131) (tgt := 112) dX10_read_131 (by decide)) ?_
      refine ev_sub (ls' := [(0, .ref (gB G + v0)), (1, .int v1)]) [0, 1] rfl ?_
      exact hk112  h4
    · refine ev_sub (ls' := [(0, .ref (gB G + v0)), (1, .int v1)]) [0, 1] rfl ?_
      exact tX10_read_134 G fu h0 v0 v1 h2
  · refine ev_sub (ls' := [(0, .ref (gB G + v0)), (1, .int v1)]) [0, 1] rfl ?_
    exact tX10_read_134 G fu h0 v0 v1 h
set_option maxRecDepth 100000 in
set_option maxHeartbeats 4000000 in
theorem tX10_read_36 (G : gx) (fu : Nat) (h0 : mh) (v0 : Nat) (v1 : Int32) (h : mh) : Ev lI G yX10_read cX10_read 2 (some .int) 8 h0 36 [(0, .ref (gB G + v0)), (1, .int v1)] [] h (fX10_read_36 fu v0 v1 h) := by
  unfold fX10_read_36
  refine ev_step (st_aload_n (pc := 36) (j := 0) dX10_read_36 rfl rfl) ?_
  refine ev_step (st_iconst (pc := 37) dX10_read_37 ni_0) ?_
  refine ev_putI (pc := 38) (p_X10_167 _ rfl) rfl dX10_read_38 (fun h1 => ?_)
  refine ev_step (st_aload_n (pc := 41) (j := 0) dX10_read_41 rfl rfl) ?_
  refine ev_ck (fun ha hS => ?_)
  refine ev_callV (iv_V (As := []) (st := []) (pc := 42) rfl m_X10_cut l_X10_224 i_X10_cut e_X10_cut ha hS rfl (Nat.le_of_ble_eq_true rfl) rfl dX10_read_42) (tX10_cut G fu v0 h1) (by decide) (by decide) (fun h2 => ?_)
  refine ev_step (st_aload_n (pc := 45) (j := 0) dX10_read_45 rfl rfl) ?_
  refine ev_step (st_iconst (pc := 46) dX10_read_46 ni_0) ?_
  refine ev_putI (pc := 47) (p_X10_203 _ rfl) rfl dX10_read_47 (fun h3 => ?_)
  refine ev_step (st_aload_n (pc := 50) (j := 0) dX10_read_50 rfl rfl) ?_
  refine ev_step (st_iconst (pc := 51) dX10_read_51 ni_0) ?_
  refine ev_putI (pc := 52) (p_X10_227 _ rfl) rfl dX10_read_52 (fun h4 => ?_)
  refine ev_step (st_aload_n (pc := 55) (j := 0) dX10_read_55 rfl rfl) ?_
  refine ev_step (st_iconst (pc := 56) dX10_read_56 ni_0) ?_
  refine ev_putI (pc := 57) (p_X10_200 _ rfl) rfl dX10_read_57 (fun h5 => ?_)
  refine ev_step (st_aload_n (pc := 60) (j := 0) dX10_read_60 rfl rfl) ?_
  refine ev_step (st_iconst (pc := 61) dX10_read_61 ni_0) ?_
  refine ev_putI (pc := 62) (p_X10_209 _ rfl) rfl dX10_read_62 (fun h6 => ?_)
  refine ev_step (st_aload_n (pc := 65) (j := 0) dX10_read_65 rfl rfl) ?_
  refine ev_step (st_iconst (pc := 66) dX10_read_66 ni_1) ?_
  refine ev_step (st_aload_n (pc := 67) (j := 0) dX10_read_67 rfl rfl) ?_
  refine ev_getI (pc := 68) k_X10_230 rfl dX10_read_68 (fun x7 => ?_)
  refine ev_step (st_isub (pc := 71) dX10_read_71) ?_
  refine ev_putI (pc := 72) (p_X10_233 _ rfl) rfl dX10_read_72 (fun h8 => ?_)
  refine ev_step (st_aload_n (pc := 75) (j := 0) dX10_read_75 rfl rfl) ?_
  refine ev_step (st_iconst (pc := 76) dX10_read_76 ni_0) ?_
  refine ev_putI (pc := 77) (p_X10_236 _ rfl) rfl dX10_read_77 (fun h9 => ?_)
  refine ev_step (st_aload_n (pc := 80) (j := 0) dX10_read_80 rfl rfl) ?_
  refine ev_step (st_aload_n (pc := 81) (j := 0) dX10_read_81 rfl rfl) ?_
  refine ev_getI (pc := 82) k_X10_233 rfl dX10_read_82 (fun x10 => ?_)
  refine ev_ck (fun ha hS => ?_)
  refine ev_callV (iv_V (As := [.int x10]) (st := []) (pc := 85) rfl m_X10_plain l_X10_149 i_X10_plain e_X10_plain ha hS rfl (Nat.le_of_ble_eq_true rfl) rfl dX10_read_85) (tX10_plain G fu v0 x10 h9) (by decide) (by decide) (fun h11 => ?_)
  refine ev_step (st_aload_n (pc := 88) (j := 0) dX10_read_88 rfl rfl) ?_
  refine ev_step (st_sipush (pc := 89) dX10_read_89 ns_130) ?_
  refine ev_step (st_aload_n (pc := 92) (j := 0) dX10_read_92 rfl rfl) ?_
  refine ev_getI (pc := 93) k_X10_233 rfl dX10_read_93 (fun x12 => ?_)
  refine ev_step (st_imul (pc := 96) dX10_read_96) ?_
  refine ev_putI (pc := 97) (p_X10_239 _ rfl) rfl dX10_read_97 (fun h13 => ?_)
  refine ev_step (st_aload_n (pc := 100) (j := 0) dX10_read_100 rfl rfl) ?_
  refine ev_step (st_sipush (pc := 101) dX10_read_101 ns_420) ?_
  refine ev_step (st_aload_n (pc := 104) (j := 0) dX10_read_104 rfl rfl) ?_
  refine ev_getI (pc := 105) k_X10_233 rfl dX10_read_105 (fun x14 => ?_)
  refine ev_step (st_imul (pc := 108) dX10_read_108) ?_
  refine ev_putI (pc := 109) (p_X10_242 _ rfl) rfl dX10_read_109 (fun h15 => ?_)
  refine ev_sub (ls' := [(0, .ref (gB G + v0)), (1, .int v1)]) [0, 1] rfl ?_
  exact tX10_read_112 G fu h0 v0 v1 fu  h15
set_option maxRecDepth 100000 in
set_option maxHeartbeats 4000000 in
theorem tX10_read_10 (G : gx) (fu : Nat) (h0 : mh) (v0 : Nat) (n : Nat) (v1 : Int32) (h : mh) : Ev lI G yX10_read cX10_read 2 (some .int) 8 h0 10 [(0, .ref (gB G + v0)), (1, .int v1)] [] h (itr (bX10_read_10 fu v0) n (v1, h)) := by
  refine ev_itr (P := fun (q : Int32 × mh) (R9 : Option (Int32 × mh)) => Ev lI G yX10_read cX10_read 2 (some .int) 8 h0 10 [(0, .ref (gB G + v0)), (1, .int q.1)] [] q.2 R9) (fun _ => ev_none) (fun k10 hk9 q => ?_) n (v1, h)
  obtain ⟨v1, h⟩ := q
  have hk10 : ∀ (v1 : Int32) (h : mh), Ev lI G yX10_read cX10_read 2 (some .int) 8 h0 10 [(0, .ref (gB G + v0)), (1, .int v1)] [] h (k10 (v1, h)) := fun v1 h => hk9 (v1, h)
  show Ev lI G yX10_read cX10_read 2 (some .int) 8 h0 10 [(0, .ref (gB G + v0)), (1, .int v1)] [] h (bX10_read_10 fu v0 k10 (v1, h))
  unfold bX10_read_10
  refine ev_step (st_iload_n (pc := 10) (j := 1) dX10_read_10 rfl rfl) ?_
  refine ev_step (st_aload_n (pc := 11) (j := 0) dX10_read_11 rfl rfl) ?_
  refine ev_getI (pc := 12) k_X10_173 rfl dX10_read_12 (fun x1 => ?_)
  refine ev_br (br_icmp_ge (tgt := 36) (pc := 15) dX10_read_15 (by decide)) (fun _ => ?_) (fun _ => ?_)
  · refine ev_sub (ls' := [(0, .ref (gB G + v0)), (1, .int v1)]) [0, 1] rfl ?_
    exact tX10_read_36 G fu h0 v0 v1 h
  · refine ev_step (st_aload_n (pc := 18) (j := 0) dX10_read_18 rfl rfl) ?_
    refine ev_getR (pc := 19) k_X10_17 rfl dX10_read_19 (fun a2 => ?_)
    refine ev_step (st_iload_n (pc := 22) (j := 1) dX10_read_22 rfl rfl) ?_
    refine ev_step (st_aload_n (pc := 23) (j := 0) dX10_read_23 rfl rfl) ?_
    refine ev_getR (pc := 24) k_X10_13 rfl dX10_read_24 (fun a3 => ?_)
    refine ev_step (st_iload_n (pc := 27) (j := 1) dX10_read_27 rfl rfl) ?_
    refine ev_ldb (pc := 28) dX10_read_28 (fun x4 => ?_)
    refine ev_stb (pc := 29) dX10_read_29 (fun h5 => ?_)
    refine ev_step (st_inc (pc := 30) (j := 1) (ls' := [(1, .int (v1 + (1 : Int32))), (0, .ref (gB G + v0))]) dX10_read_30 rfl ni_1 (by decide) rfl) ?_
    refine ev_step (st_goto (pc := 33) (tgt := 10) dX10_read_33 (by decide)) ?_
    refine ev_sub (ls' := [(0, .ref (gB G + v0)), (1, .int (v1 + (1 : Int32)))]) [1, 0] rfl ?_
    exact hk10 (v1 + (1 : Int32)) h5
set_option maxRecDepth 100000 in
set_option maxHeartbeats 4000000 in
theorem tX10_read (G : gx) (fu : Nat) (v0 : Nat) (h : mh) : Ct lI G yX10_read cX10_read 2 (some .int) 8 [.ref (gB G + v0)] h (fX10_read fu v0 h) := by
  refine ct_ls (ls := [(0, .ref (gB G + v0))]) rfl (by decide) (Nat.le_of_ble_eq_true rfl) ?_
  unfold fX10_read
  refine ev_step (st_aload_n (pc := 0) (j := 0) dX10_read_0 rfl rfl) ?_
  refine ev_step (st_aload_n (pc := 1) (j := 0) dX10_read_1 rfl rfl) ?_
  refine ev_getI (pc := 2) k_X10_167 rfl dX10_read_2 (fun x1 => ?_)
  refine ev_putI (pc := 5) (p_X10_173 _ rfl) rfl dX10_read_5 (fun h2 => ?_)
  refine ev_step (st_iconst (pc := 8) dX10_read_8 ni_0) ?_
  refine ev_step (st_istore_n (pc := 9) (ls' := [(1, .int ((0 : Int32))), (0, .ref (gB G + v0))]) dX10_read_9 rfl (by decide) rfl) ?_
  refine ev_sub (ls' := [(0, .ref (gB G + v0)), (1, .int ((0 : Int32)))]) [1, 0] rfl ?_
  exact tX10_read_10 G fu h v0 fu ((0 : Int32)) h2
