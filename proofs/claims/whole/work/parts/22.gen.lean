/-! X12_enter X12_makeTable X12_scan X12_broken X12_entry X12_isConcrete X12_tally X12_offer -/
section
variable {p : Program} {l : Launch} {e : Env} {s : State} {m : MethodId} {args : Array Value} {below : List Frame} {meth : Method} {c : Code} {g : mz_G} {h0 hf : mz_H} {DC DS : Nat}
theorem dX12_enter_0 : decode cX12_enter 0 = .ok (.bipush 7, 2) := by decide +kernel
theorem dX12_enter_2 : decode cX12_enter 2 = .ok (.aload_n 0, 1) := by decide +kernel
theorem dX12_enter_3 : decode cX12_enter 3 = .ok (.getfield 181, 3) := by decide +kernel
theorem dX12_enter_6 : decode cX12_enter 6 = .ok (.imul, 1) := by decide +kernel
theorem dX12_enter_7 : decode cX12_enter 7 = .ok (.istore_n 2, 1) := by decide +kernel
theorem dX12_enter_8 : decode cX12_enter 8 = .ok (.iconst 0, 1) := by decide +kernel
theorem dX12_enter_9 : decode cX12_enter 9 = .ok (.istore_n 3, 1) := by decide +kernel
theorem dX12_enter_10 : decode cX12_enter 10 = .ok (.iconst 0, 1) := by decide +kernel
theorem dX12_enter_11 : decode cX12_enter 11 = .ok (.istore 4, 2) := by decide +kernel
theorem dX12_enter_13 : decode cX12_enter 13 = .ok (.iload 4, 2) := by decide +kernel
theorem dX12_enter_15 : decode cX12_enter 15 = .ok (.aload_n 0, 1) := by decide +kernel
theorem dX12_enter_16 : decode cX12_enter 16 = .ok (.getfield 149, 3) := by decide +kernel
theorem dX12_enter_19 : decode cX12_enter 19 = .ok (.if_icmp .ge 222, 3) := by decide +kernel
theorem dX12_enter_22 : decode cX12_enter 22 = .ok (.iconst 0, 1) := by decide +kernel
theorem dX12_enter_23 : decode cX12_enter 23 = .ok (.istore 5, 2) := by decide +kernel
theorem dX12_enter_25 : decode cX12_enter 25 = .ok (.iload 5, 2) := by decide +kernel
theorem dX12_enter_27 : decode cX12_enter 27 = .ok (.iconst 3, 1) := by decide +kernel
theorem dX12_enter_28 : decode cX12_enter 28 = .ok (.if_icmp .ge 207, 3) := by decide +kernel
theorem dX12_enter_31 : decode cX12_enter 31 = .ok (.aload_n 0, 1) := by decide +kernel
theorem dX12_enter_32 : decode cX12_enter 32 = .ok (.getfield 50, 3) := by decide +kernel
theorem dX12_enter_35 : decode cX12_enter 35 = .ok (.iload 4, 2) := by decide +kernel
theorem dX12_enter_37 : decode cX12_enter 37 = .ok (.iaload, 1) := by decide +kernel
theorem dX12_enter_38 : decode cX12_enter 38 = .ok (.istore 6, 2) := by decide +kernel
theorem dX12_enter_40 : decode cX12_enter 40 = .ok (.iconst 3, 1) := by decide +kernel
theorem dX12_enter_41 : decode cX12_enter 41 = .ok (.iload 6, 2) := by decide +kernel
theorem dX12_enter_43 : decode cX12_enter 43 = .ok (.imul, 1) := by decide +kernel
theorem dX12_enter_44 : decode cX12_enter 44 = .ok (.iload 5, 2) := by decide +kernel
theorem dX12_enter_46 : decode cX12_enter 46 = .ok (.iadd, 1) := by decide +kernel
theorem dX12_enter_47 : decode cX12_enter 47 = .ok (.bipush 31, 2) := by decide +kernel
theorem dX12_enter_49 : decode cX12_enter 49 = .ok (.imul, 1) := by decide +kernel
theorem dX12_enter_50 : decode cX12_enter 50 = .ok (.iload_n 1, 1) := by decide +kernel
theorem dX12_enter_51 : decode cX12_enter 51 = .ok (.iadd, 1) := by decide +kernel
theorem dX12_enter_52 : decode cX12_enter 52 = .ok (.istore 7, 2) := by decide +kernel
theorem dX12_enter_54 : decode cX12_enter 54 = .ok (.aload_n 0, 1) := by decide +kernel
theorem dX12_enter_55 : decode cX12_enter 55 = .ok (.getfield 31, 3) := by decide +kernel
theorem dX12_enter_58 : decode cX12_enter 58 = .ok (.iload 7, 2) := by decide +kernel
theorem dX12_enter_60 : decode cX12_enter 60 = .ok (.baload, 1) := by decide +kernel
theorem dX12_enter_61 : decode cX12_enter 61 = .ok (.ifCond .eq 168, 3) := by decide +kernel
theorem dX12_enter_64 : decode cX12_enter 64 = .ok (.aload_n 0, 1) := by decide +kernel
theorem dX12_enter_65 : decode cX12_enter 65 = .ok (.getfield 41, 3) := by decide +kernel
theorem dX12_enter_68 : decode cX12_enter 68 = .ok (.iload 7, 2) := by decide +kernel
theorem dX12_enter_70 : decode cX12_enter 70 = .ok (.iaload, 1) := by decide +kernel
theorem dX12_enter_71 : decode cX12_enter 71 = .ok (.iconst 3, 1) := by decide +kernel
theorem dX12_enter_72 : decode cX12_enter 72 = .ok (.iand, 1) := by decide +kernel
theorem dX12_enter_73 : decode cX12_enter 73 = .ok (.ifCond .eq 6, 3) := by decide +kernel
theorem dX12_enter_76 : decode cX12_enter 76 = .ok (.goto 153, 3) := by decide +kernel
theorem dX12_enter_79 : decode cX12_enter 79 = .ok (.iload_n 3, 1) := by decide +kernel
theorem dX12_enter_80 : decode cX12_enter 80 = .ok (.ifCond .ne 73, 3) := by decide +kernel
theorem dX12_enter_83 : decode cX12_enter 83 = .ok (.aload_n 0, 1) := by decide +kernel
theorem dX12_enter_84 : decode cX12_enter 84 = .ok (.getfield 59, 3) := by decide +kernel
theorem dX12_enter_87 : decode cX12_enter 87 = .ok (.iload_n 2, 1) := by decide +kernel
theorem dX12_enter_88 : decode cX12_enter 88 = .ok (.iload_n 1, 1) := by decide +kernel
theorem dX12_enter_89 : decode cX12_enter 89 = .ok (.iastore, 1) := by decide +kernel
theorem dX12_enter_90 : decode cX12_enter 90 = .ok (.aload_n 0, 1) := by decide +kernel
theorem dX12_enter_91 : decode cX12_enter 91 = .ok (.getfield 59, 3) := by decide +kernel
theorem dX12_enter_94 : decode cX12_enter 94 = .ok (.iload_n 2, 1) := by decide +kernel
theorem dX12_enter_95 : decode cX12_enter 95 = .ok (.iconst 1, 1) := by decide +kernel
theorem dX12_enter_96 : decode cX12_enter 96 = .ok (.iadd, 1) := by decide +kernel
theorem dX12_enter_97 : decode cX12_enter 97 = .ok (.iload 6, 2) := by decide +kernel
theorem dX12_enter_99 : decode cX12_enter 99 = .ok (.iastore, 1) := by decide +kernel
theorem dX12_enter_100 : decode cX12_enter 100 = .ok (.aload_n 0, 1) := by decide +kernel
theorem dX12_enter_101 : decode cX12_enter 101 = .ok (.getfield 59, 3) := by decide +kernel
theorem dX12_enter_104 : decode cX12_enter 104 = .ok (.iload_n 2, 1) := by decide +kernel
theorem dX12_enter_105 : decode cX12_enter 105 = .ok (.iconst 2, 1) := by decide +kernel
theorem dX12_enter_106 : decode cX12_enter 106 = .ok (.iadd, 1) := by decide +kernel
theorem dX12_enter_107 : decode cX12_enter 107 = .ok (.iload 5, 2) := by decide +kernel
theorem dX12_enter_109 : decode cX12_enter 109 = .ok (.iastore, 1) := by decide +kernel
theorem dX12_enter_110 : decode cX12_enter 110 = .ok (.aload_n 0, 1) := by decide +kernel
theorem dX12_enter_111 : decode cX12_enter 111 = .ok (.getfield 59, 3) := by decide +kernel
theorem dX12_enter_114 : decode cX12_enter 114 = .ok (.iload_n 2, 1) := by decide +kernel
theorem dX12_enter_115 : decode cX12_enter 115 = .ok (.iconst 3, 1) := by decide +kernel
theorem dX12_enter_116 : decode cX12_enter 116 = .ok (.iadd, 1) := by decide +kernel
theorem dX12_enter_117 : decode cX12_enter 117 = .ok (.aload_n 0, 1) := by decide +kernel
theorem dX12_enter_118 : decode cX12_enter 118 = .ok (.iload 6, 2) := by decide +kernel
theorem dX12_enter_120 : decode cX12_enter 120 = .ok (.iload 7, 2) := by decide +kernel
theorem dX12_enter_122 : decode cX12_enter 122 = .ok (.invokevirtual 188, 3) := by decide +kernel
theorem dX12_enter_125 : decode cX12_enter 125 = .ok (.iastore, 1) := by decide +kernel
theorem dX12_enter_126 : decode cX12_enter 126 = .ok (.aload_n 0, 1) := by decide +kernel
theorem dX12_enter_127 : decode cX12_enter 127 = .ok (.getfield 59, 3) := by decide +kernel
theorem dX12_enter_130 : decode cX12_enter 130 = .ok (.iload_n 2, 1) := by decide +kernel
theorem dX12_enter_131 : decode cX12_enter 131 = .ok (.iconst 4, 1) := by decide +kernel
theorem dX12_enter_132 : decode cX12_enter 132 = .ok (.iadd, 1) := by decide +kernel
theorem dX12_enter_133 : decode cX12_enter 133 = .ok (.aload_n 0, 1) := by decide +kernel
theorem dX12_enter_134 : decode cX12_enter 134 = .ok (.getfield 38, 3) := by decide +kernel
theorem dX12_enter_137 : decode cX12_enter 137 = .ok (.iload 7, 2) := by decide +kernel
theorem dX12_enter_139 : decode cX12_enter 139 = .ok (.iaload, 1) := by decide +kernel
theorem dX12_enter_140 : decode cX12_enter 140 = .ok (.iastore, 1) := by decide +kernel
theorem dX12_enter_141 : decode cX12_enter 141 = .ok (.aload_n 0, 1) := by decide +kernel
theorem dX12_enter_142 : decode cX12_enter 142 = .ok (.getfield 59, 3) := by decide +kernel
theorem dX12_enter_145 : decode cX12_enter 145 = .ok (.iload_n 2, 1) := by decide +kernel
theorem dX12_enter_146 : decode cX12_enter 146 = .ok (.iconst 5, 1) := by decide +kernel
theorem dX12_enter_147 : decode cX12_enter 147 = .ok (.iadd, 1) := by decide +kernel
theorem dX12_enter_148 : decode cX12_enter 148 = .ok (.iconst 0, 1) := by decide +kernel
theorem dX12_enter_149 : decode cX12_enter 149 = .ok (.iastore, 1) := by decide +kernel
theorem dX12_enter_150 : decode cX12_enter 150 = .ok (.goto 58, 3) := by decide +kernel
theorem dX12_enter_153 : decode cX12_enter 153 = .ok (.aload_n 0, 1) := by decide +kernel
theorem dX12_enter_154 : decode cX12_enter 154 = .ok (.getfield 59, 3) := by decide +kernel
theorem dX12_enter_157 : decode cX12_enter 157 = .ok (.iload_n 2, 1) := by decide +kernel
theorem dX12_enter_158 : decode cX12_enter 158 = .ok (.iconst 3, 1) := by decide +kernel
theorem dX12_enter_159 : decode cX12_enter 159 = .ok (.iadd, 1) := by decide +kernel
theorem dX12_enter_160 : decode cX12_enter 160 = .ok (.iaload, 1) := by decide +kernel
theorem dX12_enter_161 : decode cX12_enter 161 = .ok (.aload_n 0, 1) := by decide +kernel
theorem dX12_enter_162 : decode cX12_enter 162 = .ok (.iload 6, 2) := by decide +kernel
theorem dX12_enter_164 : decode cX12_enter 164 = .ok (.iload 7, 2) := by decide +kernel
theorem dX12_enter_166 : decode cX12_enter 166 = .ok (.invokevirtual 188, 3) := by decide +kernel
theorem dX12_enter_169 : decode cX12_enter 169 = .ok (.if_icmp .ne 21, 3) := by decide +kernel
theorem dX12_enter_172 : decode cX12_enter 172 = .ok (.aload_n 0, 1) := by decide +kernel
theorem dX12_enter_173 : decode cX12_enter 173 = .ok (.getfield 59, 3) := by decide +kernel
theorem dX12_enter_176 : decode cX12_enter 176 = .ok (.iload_n 2, 1) := by decide +kernel
theorem dX12_enter_177 : decode cX12_enter 177 = .ok (.iconst 4, 1) := by decide +kernel
theorem dX12_enter_178 : decode cX12_enter 178 = .ok (.iadd, 1) := by decide +kernel
theorem dX12_enter_179 : decode cX12_enter 179 = .ok (.iaload, 1) := by decide +kernel
theorem dX12_enter_180 : decode cX12_enter 180 = .ok (.aload_n 0, 1) := by decide +kernel
theorem dX12_enter_181 : decode cX12_enter 181 = .ok (.getfield 38, 3) := by decide +kernel
theorem dX12_enter_184 : decode cX12_enter 184 = .ok (.iload 7, 2) := by decide +kernel
theorem dX12_enter_186 : decode cX12_enter 186 = .ok (.iaload, 1) := by decide +kernel
theorem dX12_enter_187 : decode cX12_enter 187 = .ok (.if_icmp .eq 21, 3) := by decide +kernel
theorem dX12_enter_190 : decode cX12_enter 190 = .ok (.aload_n 0, 1) := by decide +kernel
theorem dX12_enter_191 : decode cX12_enter 191 = .ok (.iconst 2, 1) := by decide +kernel
theorem dX12_enter_192 : decode cX12_enter 192 = .ok (.iload_n 1, 1) := by decide +kernel
theorem dX12_enter_193 : decode cX12_enter 193 = .ok (.aload_n 0, 1) := by decide +kernel
theorem dX12_enter_194 : decode cX12_enter 194 = .ok (.getfield 59, 3) := by decide +kernel
theorem dX12_enter_197 : decode cX12_enter 197 = .ok (.iload_n 2, 1) := by decide +kernel
theorem dX12_enter_198 : decode cX12_enter 198 = .ok (.iconst 1, 1) := by decide +kernel
theorem dX12_enter_199 : decode cX12_enter 199 = .ok (.iadd, 1) := by decide +kernel
theorem dX12_enter_200 : decode cX12_enter 200 = .ok (.iaload, 1) := by decide +kernel
theorem dX12_enter_201 : decode cX12_enter 201 = .ok (.iload 6, 2) := by decide +kernel
theorem dX12_enter_203 : decode cX12_enter 203 = .ok (.invokevirtual 184, 3) := by decide +kernel
theorem dX12_enter_206 : decode cX12_enter 206 = .ok (.iconst 0, 1) := by decide +kernel
theorem dX12_enter_207 : decode cX12_enter 207 = .ok (.ireturn, 1) := by decide +kernel
theorem dX12_enter_208 : decode cX12_enter 208 = .ok (.aload_n 0, 1) := by decide +kernel
theorem dX12_enter_209 : decode cX12_enter 209 = .ok (.getfield 59, 3) := by decide +kernel
theorem dX12_enter_212 : decode cX12_enter 212 = .ok (.iload_n 2, 1) := by decide +kernel
theorem dX12_enter_213 : decode cX12_enter 213 = .ok (.iconst 5, 1) := by decide +kernel
theorem dX12_enter_214 : decode cX12_enter 214 = .ok (.iadd, 1) := by decide +kernel
theorem dX12_enter_215 : decode cX12_enter 215 = .ok (.dup2, 1) := by decide +kernel
theorem dX12_enter_216 : decode cX12_enter 216 = .ok (.iaload, 1) := by decide +kernel
theorem dX12_enter_217 : decode cX12_enter 217 = .ok (.aload_n 0, 1) := by decide +kernel
theorem dX12_enter_218 : decode cX12_enter 218 = .ok (.getfield 41, 3) := by decide +kernel
theorem dX12_enter_221 : decode cX12_enter 221 = .ok (.iload 7, 2) := by decide +kernel
theorem dX12_enter_223 : decode cX12_enter 223 = .ok (.iaload, 1) := by decide +kernel
theorem dX12_enter_224 : decode cX12_enter 224 = .ok (.ior, 1) := by decide +kernel
theorem dX12_enter_225 : decode cX12_enter 225 = .ok (.iastore, 1) := by decide +kernel
theorem dX12_enter_226 : decode cX12_enter 226 = .ok (.iinc 3 1, 3) := by decide +kernel
theorem dX12_enter_229 : decode cX12_enter 229 = .ok (.iinc 5 1, 3) := by decide +kernel
theorem dX12_enter_232 : decode cX12_enter 232 = .ok (.goto (-207), 3) := by decide +kernel
theorem dX12_enter_235 : decode cX12_enter 235 = .ok (.iinc 4 1, 3) := by decide +kernel
theorem dX12_enter_238 : decode cX12_enter 238 = .ok (.goto (-225), 3) := by decide +kernel
theorem dX12_enter_241 : decode cX12_enter 241 = .ok (.iload_n 3, 1) := by decide +kernel
theorem dX12_enter_242 : decode cX12_enter 242 = .ok (.ifCond .le 23, 3) := by decide +kernel
theorem dX12_enter_245 : decode cX12_enter 245 = .ok (.aload_n 0, 1) := by decide +kernel
theorem dX12_enter_246 : decode cX12_enter 246 = .ok (.getfield 59, 3) := by decide +kernel
theorem dX12_enter_249 : decode cX12_enter 249 = .ok (.iload_n 2, 1) := by decide +kernel
theorem dX12_enter_250 : decode cX12_enter 250 = .ok (.bipush 6, 2) := by decide +kernel
theorem dX12_enter_252 : decode cX12_enter 252 = .ok (.iadd, 1) := by decide +kernel
theorem dX12_enter_253 : decode cX12_enter 253 = .ok (.iload_n 3, 1) := by decide +kernel
theorem dX12_enter_254 : decode cX12_enter 254 = .ok (.iastore, 1) := by decide +kernel
theorem dX12_enter_255 : decode cX12_enter 255 = .ok (.aload_n 0, 1) := by decide +kernel
theorem dX12_enter_256 : decode cX12_enter 256 = .ok (.dup, 1) := by decide +kernel
theorem dX12_enter_257 : decode cX12_enter 257 = .ok (.getfield 181, 3) := by decide +kernel
theorem dX12_enter_260 : decode cX12_enter 260 = .ok (.iconst 1, 1) := by decide +kernel
theorem dX12_enter_261 : decode cX12_enter 261 = .ok (.iadd, 1) := by decide +kernel
theorem dX12_enter_262 : decode cX12_enter 262 = .ok (.putfield 181, 3) := by decide +kernel
theorem dX12_enter_265 : decode cX12_enter 265 = .ok (.iconst 1, 1) := by decide +kernel
theorem dX12_enter_266 : decode cX12_enter 266 = .ok (.ireturn, 1) := by decide +kernel
def fn_X12_enter_b229 (rc13 : mz_H → (Option Nat) → Int32 → Int32 → Int32 → Int32 → mz_Res Int32) (rc25 : mz_H → (Option Nat) → Int32 → Int32 → Int32 → Int32 → Int32 → mz_Res Int32) (h : mz_H) (a0 : (Option Nat)) (x1 : Int32) (x2 : Int32) (x3 : Int32) (x4 : Int32) (x5 : Int32) : mz_Res Int32 :=
  mz_op (some (x5 + 1)) fun v1 =>
  rc25 h a0 x1 x2 x3 x4 v1
set_option maxHeartbeats 4000000 in
set_option maxRecDepth 100000 in
theorem pf_X12_enter_b229 (r : Int32) (Y : mz_Y p g RX12 cX12_enter 8 (some .boolean) "enter" (mz_AF h0) s m args meth c) {rc13 : mz_H → (Option Nat) → Int32 → Int32 → Int32 → Int32 → mz_Res Int32} (hrc13 : ∀ (h : mz_H) (a0 : (Option Nat)) (x1 : Int32) (x2 : Int32) (x3 : Int32) (x4 : Int32) (dc ds : Nat), rc13 h a0 x1 x2 x3 x4 = some (r, hf, dc, ds) → mz_Go l g p e s m args below meth c 1 24 DC DS h0 (some (Value.int r)) hf 8 13 [(0, false, va_rf a0), (1, false, .int x1), (2, false, .int x2), (3, false, .int x3), (4, false, .int x4)] [] h dc ds) {rc25 : mz_H → (Option Nat) → Int32 → Int32 → Int32 → Int32 → Int32 → mz_Res Int32} (hrc25 : ∀ (h : mz_H) (a0 : (Option Nat)) (x1 : Int32) (x2 : Int32) (x3 : Int32) (x4 : Int32) (x5 : Int32) (dc ds : Nat), rc25 h a0 x1 x2 x3 x4 x5 = some (r, hf, dc, ds) → mz_Go l g p e s m args below meth c 1 24 DC DS h0 (some (Value.int r)) hf 8 25 [(0, false, va_rf a0), (1, false, .int x1), (2, false, .int x2), (3, false, .int x3), (4, false, .int x4), (5, false, .int x5)] [] h dc ds) (h : mz_H) (a0 : (Option Nat)) (x1 : Int32) (x2 : Int32) (x3 : Int32) (x4 : Int32) (x5 : Int32) (dc ds : Nat) (hr : fn_X12_enter_b229 rc13 rc25 h a0 x1 x2 x3 x4 x5 = some (r, hf, dc, ds)) : mz_Go l g p e s m args below meth c 1 24 DC DS h0 (some (Value.int r)) hf 8 229 [(0, false, va_rf a0), (1, false, .int x1), (2, false, .int x2), (3, false, .int x3), (4, false, .int x4), (5, false, .int x5)] [] h dc ds := by
  unfold fn_X12_enter_b229 at hr
  intro H locs cells slots ls hH hS hl hc hs
  have X := Y.1
  obtain ⟨v1, hv1, hr⟩ := mz_op_some hr
  have hv1 := Option.some.inj hv1
  refine mz_iinc (k := 5) X [(5, false, .int v1), (0, false, va_rf a0), (1, false, .int x1), (2, false, .int x2), (3, false, .int x3), (4, false, .int x4)] v1 dX12_enter_229 hl rfl hv1 (by decide) rfl (fun ls hl => ?_)
  refine lv_goto (tgt := 25) X.1 X.2.1 dX12_enter_232 (by decide) ?_
  exact hrc25 h a0 x1 x2 x3 x4 v1 _ _ hr H locs cells slots ls hH hS (mz_sub hl [1, 2, 3, 4, 5, 0] rfl) hc hs
def fn_X12_enter_b208 (rc13 : mz_H → (Option Nat) → Int32 → Int32 → Int32 → Int32 → mz_Res Int32) (rc25 : mz_H → (Option Nat) → Int32 → Int32 → Int32 → Int32 → Int32 → mz_Res Int32) (h : mz_H) (a0 : (Option Nat)) (x1 : Int32) (x2 : Int32) (x3 : Int32) (x4 : Int32) (x5 : Int32) (x7 : Int32) : mz_Res Int32 :=
  mz_op (mz_fR h a0 11 25) fun v1 =>
  mz_op (mz_aI h v1 0 (x2 + 5)) fun v2 =>
  mz_op (mz_fR h a0 11 13) fun v3 =>
  mz_op (mz_aI h v3 0 x7) fun v4 =>
  mz_op (mz_sI h v1 0 (x2 + 5) (v2 ||| v4)) fun h =>
  mz_op (some (x3 + 1)) fun v5 =>
  fn_X12_enter_b229 rc13 rc25 h a0 x1 x2 v5 x4 x5
set_option maxHeartbeats 4000000 in
set_option maxRecDepth 100000 in
theorem pf_X12_enter_b208 (r : Int32) (Y : mz_Y p g RX12 cX12_enter 8 (some .boolean) "enter" (mz_AF h0) s m args meth c) {rc13 : mz_H → (Option Nat) → Int32 → Int32 → Int32 → Int32 → mz_Res Int32} (hrc13 : ∀ (h : mz_H) (a0 : (Option Nat)) (x1 : Int32) (x2 : Int32) (x3 : Int32) (x4 : Int32) (dc ds : Nat), rc13 h a0 x1 x2 x3 x4 = some (r, hf, dc, ds) → mz_Go l g p e s m args below meth c 1 24 DC DS h0 (some (Value.int r)) hf 8 13 [(0, false, va_rf a0), (1, false, .int x1), (2, false, .int x2), (3, false, .int x3), (4, false, .int x4)] [] h dc ds) {rc25 : mz_H → (Option Nat) → Int32 → Int32 → Int32 → Int32 → Int32 → mz_Res Int32} (hrc25 : ∀ (h : mz_H) (a0 : (Option Nat)) (x1 : Int32) (x2 : Int32) (x3 : Int32) (x4 : Int32) (x5 : Int32) (dc ds : Nat), rc25 h a0 x1 x2 x3 x4 x5 = some (r, hf, dc, ds) → mz_Go l g p e s m args below meth c 1 24 DC DS h0 (some (Value.int r)) hf 8 25 [(0, false, va_rf a0), (1, false, .int x1), (2, false, .int x2), (3, false, .int x3), (4, false, .int x4), (5, false, .int x5)] [] h dc ds) (h : mz_H) (a0 : (Option Nat)) (x1 : Int32) (x2 : Int32) (x3 : Int32) (x4 : Int32) (x5 : Int32) (x7 : Int32) (dc ds : Nat) (hr : fn_X12_enter_b208 rc13 rc25 h a0 x1 x2 x3 x4 x5 x7 = some (r, hf, dc, ds)) : mz_Go l g p e s m args below meth c 1 24 DC DS h0 (some (Value.int r)) hf 8 208 [(0, false, va_rf a0), (1, false, .int x1), (2, false, .int x2), (3, false, .int x3), (4, false, .int x4), (5, false, .int x5), (7, false, .int x7)] [] h dc ds := by
  unfold fn_X12_enter_b208 at hr
  intro H locs cells slots ls hH hS hl hc hs
  have X := Y.1
  refine mz_aload_n X dX12_enter_208 rfl (mz_at hl 0 rfl) ?_
  refine mz_getR X hH fl_RX12_59 dX12_enter_209 hr (fun v1 hr => ?_)
  refine lv_iload_n X.1 X.2.1 dX12_enter_212 rfl (mz_at hl 2 rfl) ?_
  refine lv_iconst (v := 5) X.1 X.2.1 dX12_enter_213 (by decide) ?_
  refine lv_iadd X.1 X.2.1 dX12_enter_214 ?_
  refine mz_dup2 X dX12_enter_215 ?_
  refine mz_iald X hH dX12_enter_216 hr (fun v2 hr => ?_)
  refine mz_aload_n X dX12_enter_217 rfl (mz_at hl 0 rfl) ?_
  refine mz_getR X hH fl_RX12_41 dX12_enter_218 hr (fun v3 hr => ?_)
  refine lv_iload X.1 X.2.1 dX12_enter_221 (mz_at hl 6 rfl) ?_
  refine mz_iald X hH dX12_enter_223 hr (fun v4 hr => ?_)
  refine lv_ior X.1 X.2.1 dX12_enter_224 ?_
  refine mz_iast X hH hS dX12_enter_225 hr (fun h H locs hr hH hS => ?_)
  obtain ⟨v5, hv5, hr⟩ := mz_op_some hr
  have hv5 := Option.some.inj hv5
  refine mz_iinc (k := 3) X [(3, false, .int v5), (0, false, va_rf a0), (1, false, .int x1), (2, false, .int x2), (4, false, .int x4), (5, false, .int x5), (7, false, .int x7)] v5 dX12_enter_226 hl rfl hv5 (by decide) rfl (fun ls hl => ?_)
  exact pf_X12_enter_b229 r Y hrc13 hrc25 h a0 x1 x2 v5 x4 x5 _ _ hr H locs cells slots ls hH hS (mz_sub hl [1, 2, 3, 0, 4, 5] rfl) hc hs
def fn_X12_enter_b190 (h : mz_H) (a0 : (Option Nat)) (x1 : Int32) (x2 : Int32) (x6 : Int32) : mz_Res Int32 :=
  mz_op (mz_fR h a0 11 25) fun v1 =>
  mz_op (mz_aI h v1 0 (x2 + 1)) fun v2 =>
  mz_chk (mz_is h a0 11) <| mz_call (fn_X12_breaks h a0 2 x1 v2 x6) fun _ h =>
  mz_chk ((0 : Int32) &&& 1 == 0) (mz_ret 0 h)
set_option maxHeartbeats 4000000 in
set_option maxRecDepth 100000 in
theorem pf_X12_enter_b190 (r : Int32) (Y : mz_Y p g RX12 cX12_enter 8 (some .boolean) "enter" (mz_AF h0) s m args meth c) (h : mz_H) (a0 : (Option Nat)) (x1 : Int32) (x2 : Int32) (x6 : Int32) (dc ds : Nat) (hr : fn_X12_enter_b190 h a0 x1 x2 x6 = some (r, hf, dc, ds)) : mz_Go l g p e s m args below meth c 1 24 DC DS h0 (some (Value.int r)) hf 8 190 [(0, false, va_rf a0), (1, false, .int x1), (2, false, .int x2), (6, false, .int x6)] [] h dc ds := by
  unfold fn_X12_enter_b190 at hr
  intro H locs cells slots ls hH hS hl hc hs
  have X := Y.1
  refine mz_aload_n X dX12_enter_190 rfl (mz_at hl 0 rfl) ?_
  refine lv_iconst (v := 2) X.1 X.2.1 dX12_enter_191 (by decide) ?_
  refine lv_iload_n X.1 X.2.1 dX12_enter_192 rfl (mz_at hl 1 rfl) ?_
  refine mz_aload_n X dX12_enter_193 rfl (mz_at hl 0 rfl) ?_
  refine mz_getR X hH fl_RX12_59 dX12_enter_194 hr (fun v1 hr => ?_)
  refine lv_iload_n X.1 X.2.1 dX12_enter_197 rfl (mz_at hl 2 rfl) ?_
  refine lv_iconst (v := 1) X.1 X.2.1 dX12_enter_198 (by decide) ?_
  refine lv_iadd X.1 X.2.1 dX12_enter_199 ?_
  refine mz_iald X hH dX12_enter_200 hr (fun v2 hr => ?_)
  refine lv_iload X.1 X.2.1 dX12_enter_201 (mz_at hl 3 rfl) ?_
  refine mz_kV0 X hH hS hl.1.1 [.int 2, .int x1, .int v2, .int x6] [] hr (ct_X12_breaks l g h a0 2 x1 v2 x6) mb_RX12_184 rfl im_X12_breaks rfl (Nat.le_of_ble_eq_true rfl) ⟨Nat.le_of_ble_eq_true rfl, Nat.le_of_ble_eq_true rfl⟩ hc hs dX12_enter_203 rfl (fun _ h H locs cells slots dc ds hr hH hS hc hs => ?_)
  refine lv_iconst (v := 0) X.1 X.2.1 dX12_enter_206 (by decide) ?_
  exact mz_zret Y dX12_enter_207 hH hS hc hs hr
def fn_X12_enter_b25 (rc13 : mz_H → (Option Nat) → Int32 → Int32 → Int32 → Int32 → mz_Res Int32) : Nat → mz_H → (Option Nat) → Int32 → Int32 → Int32 → Int32 → Int32 → mz_Res Int32
  | 0, _, _, _, _, _, _, _ => none
  | n + 1, h, a0, x1, x2, x3, x4, x5 =>
    if 3 ≤ x5 then
      mz_op (some (x4 + 1)) fun v1 =>
      rc13 h a0 x1 x2 x3 v1
    else
      mz_op (mz_fR h a0 11 16) fun v2 =>
      mz_op (mz_aI h v2 0 x4) fun v3 =>
      mz_op (some ((((3 * v3) + x5) * 31) + x1)) fun v4 =>
      mz_op (mz_fR h a0 11 10) fun v5 =>
      mz_op (mz_aI h v5 2 v4) fun v6 =>
      if v6 = 0 then
        fn_X12_enter_b229 rc13 (fn_X12_enter_b25 rc13 n) h a0 x1 x2 x3 x4 x5
      else
        mz_op (mz_fR h a0 11 13) fun v7 =>
        mz_op (mz_aI h v7 0 v4) fun v8 =>
        if (v8 &&& 3) = 0 then
          if x3 = 0 then
            mz_op (mz_fR h a0 11 25) fun v16 =>
            mz_op (mz_sI h v16 0 x2 x1) fun h =>
            mz_op (mz_fR h a0 11 25) fun v17 =>
            mz_op (mz_sI h v17 0 (x2 + 1) v3) fun h =>
            mz_op (mz_fR h a0 11 25) fun v18 =>
            mz_op (mz_sI h v18 0 (x2 + 2) x5) fun h =>
            mz_op (mz_fR h a0 11 25) fun v19 =>
            mz_chk (mz_is h a0 11) <| mz_call (fn_X12_laneOf h a0 v3 v4) fun v20 h =>
            mz_op (mz_sI h v19 0 (x2 + 3) v20) fun h =>
            mz_op (mz_fR h a0 11 25) fun v21 =>
            mz_op (mz_fR h a0 11 12) fun v22 =>
            mz_op (mz_aI h v22 0 v4) fun v23 =>
            mz_op (mz_sI h v21 0 (x2 + 4) v23) fun h =>
            mz_op (mz_fR h a0 11 25) fun v24 =>
            mz_op (mz_sI h v24 0 (x2 + 5) 0) fun h =>
            fn_X12_enter_b208 rc13 (fn_X12_enter_b25 rc13 n) h a0 x1 x2 x3 x4 x5 v4
          else
            mz_op (mz_fR h a0 11 25) fun v9 =>
            mz_op (mz_aI h v9 0 (x2 + 3)) fun v10 =>
            mz_chk (mz_is h a0 11) <| mz_call (fn_X12_laneOf h a0 v3 v4) fun v11 h =>
            if v10 = v11 then
              mz_op (mz_fR h a0 11 25) fun v12 =>
              mz_op (mz_aI h v12 0 (x2 + 4)) fun v13 =>
              mz_op (mz_fR h a0 11 12) fun v14 =>
              mz_op (mz_aI h v14 0 v4) fun v15 =>
              if v13 = v15 then
                fn_X12_enter_b208 rc13 (fn_X12_enter_b25 rc13 n) h a0 x1 x2 x3 x4 x5 v4
              else
                fn_X12_enter_b190 h a0 x1 x2 v3
            else
              fn_X12_enter_b190 h a0 x1 x2 v3
        else
          fn_X12_enter_b229 rc13 (fn_X12_enter_b25 rc13 n) h a0 x1 x2 x3 x4 x5
set_option maxHeartbeats 4000000 in
set_option maxRecDepth 100000 in
theorem pf_X12_enter_b25 (r : Int32) (Y : mz_Y p g RX12 cX12_enter 8 (some .boolean) "enter" (mz_AF h0) s m args meth c) {rc13 : mz_H → (Option Nat) → Int32 → Int32 → Int32 → Int32 → mz_Res Int32} (hrc13 : ∀ (h : mz_H) (a0 : (Option Nat)) (x1 : Int32) (x2 : Int32) (x3 : Int32) (x4 : Int32) (dc ds : Nat), rc13 h a0 x1 x2 x3 x4 = some (r, hf, dc, ds) → mz_Go l g p e s m args below meth c 1 24 DC DS h0 (some (Value.int r)) hf 8 13 [(0, false, va_rf a0), (1, false, .int x1), (2, false, .int x2), (3, false, .int x3), (4, false, .int x4)] [] h dc ds) : ∀ (n : Nat) (h : mz_H) (a0 : (Option Nat)) (x1 : Int32) (x2 : Int32) (x3 : Int32) (x4 : Int32) (x5 : Int32) (dc ds : Nat), fn_X12_enter_b25 rc13 n h a0 x1 x2 x3 x4 x5 = some (r, hf, dc, ds) → mz_Go l g p e s m args below meth c 1 24 DC DS h0 (some (Value.int r)) hf 8 25 [(0, false, va_rf a0), (1, false, .int x1), (2, false, .int x2), (3, false, .int x3), (4, false, .int x4), (5, false, .int x5)] [] h dc ds := by
  have X := Y.1
  intro n
  induction n with
  | zero => intro h a0 x1 x2 x3 x4 x5 dc ds hr; simp [fn_X12_enter_b25] at hr
  | succ n ih =>
    intro h a0 x1 x2 x3 x4 x5 dc ds hr
    rw [fn_X12_enter_b25] at hr
    intro H locs cells slots ls hH hS hl hc hs
    refine lv_iload X.1 X.2.1 dX12_enter_25 (mz_at hl 5 rfl) ?_
    refine lv_iconst (v := 3) X.1 X.2.1 dX12_enter_27 (by decide) ?_
    refine mz_icmp_ge X 235 dX12_enter_28 (by decide) hr (fun hr => ?_) (fun hr => ?_)
    · obtain ⟨v1, hv1, hr⟩ := mz_op_some hr
      have hv1 := Option.some.inj hv1
      refine mz_iinc (k := 4) X [(4, false, .int v1), (0, false, va_rf a0), (1, false, .int x1), (2, false, .int x2), (3, false, .int x3), (5, false, .int x5)] v1 dX12_enter_235 hl rfl hv1 (by decide) rfl (fun ls hl => ?_)
      refine lv_goto (tgt := 13) X.1 X.2.1 dX12_enter_238 (by decide) ?_
      exact hrc13 h a0 x1 x2 x3 v1 _ _ hr H locs cells slots ls hH hS (mz_sub hl [1, 2, 3, 4, 0] rfl) hc hs
    · refine mz_aload_n X dX12_enter_31 rfl (mz_at hl 0 rfl) ?_
      refine mz_getR X hH fl_RX12_50 dX12_enter_32 hr (fun v2 hr => ?_)
      refine lv_iload X.1 X.2.1 dX12_enter_35 (mz_at hl 4 rfl) ?_
      refine mz_iald X hH dX12_enter_37 hr (fun v3 hr => ?_)
      refine mz_istore X [(6, false, .int v3), (0, false, va_rf a0), (1, false, .int x1), (2, false, .int x2), (3, false, .int x3), (4, false, .int x4), (5, false, .int x5)] dX12_enter_38 hl (by decide) rfl (fun ls hl => ?_)
      refine lv_iconst (v := 3) X.1 X.2.1 dX12_enter_40 (by decide) ?_
      refine lv_iload X.1 X.2.1 dX12_enter_41 (mz_at hl 0 rfl) ?_
      refine lv_imul X.1 X.2.1 dX12_enter_43 ?_
      refine lv_iload X.1 X.2.1 dX12_enter_44 (mz_at hl 6 rfl) ?_
      refine lv_iadd X.1 X.2.1 dX12_enter_46 ?_
      refine lv_bipush (v := 31) X.1 X.2.1 dX12_enter_47 (by decide) ?_
      refine lv_imul X.1 X.2.1 dX12_enter_49 ?_
      refine lv_iload_n X.1 X.2.1 dX12_enter_50 rfl (mz_at hl 2 rfl) ?_
      refine lv_iadd X.1 X.2.1 dX12_enter_51 ?_
      refine mz_topi hr (fun v4 hv4 hr => ?_)
      refine mz_istore X [(7, false, .int v4), (6, false, .int v3), (0, false, va_rf a0), (1, false, .int x1), (2, false, .int x2), (3, false, .int x3), (4, false, .int x4), (5, false, .int x5)] dX12_enter_52 hl (by decide) rfl (fun ls hl => ?_)
      refine mz_aload_n X dX12_enter_54 rfl (mz_at hl 2 rfl) ?_
      refine mz_getR X hH fl_RX12_31 dX12_enter_55 hr (fun v5 hr => ?_)
      refine lv_iload X.1 X.2.1 dX12_enter_58 (mz_at hl 0 rfl) ?_
      refine mz_zald X hH dX12_enter_60 hr (fun v6 hr => ?_)
      refine mz_if_eq X 229 dX12_enter_61 (by decide) hr (fun hr => ?_) (fun hr => ?_)
      · exact pf_X12_enter_b229 r Y hrc13 ih h a0 x1 x2 x3 x4 x5 _ _ hr H locs cells slots ls hH hS (mz_sub hl [2, 3, 4, 5, 6, 7] rfl) hc hs
      · refine mz_aload_n X dX12_enter_64 rfl (mz_at hl 2 rfl) ?_
        refine mz_getR X hH fl_RX12_41 dX12_enter_65 hr (fun v7 hr => ?_)
        refine lv_iload X.1 X.2.1 dX12_enter_68 (mz_at hl 0 rfl) ?_
        refine mz_iald X hH dX12_enter_70 hr (fun v8 hr => ?_)
        refine lv_iconst (v := 3) X.1 X.2.1 dX12_enter_71 (by decide) ?_
        refine lv_iand X.1 X.2.1 dX12_enter_72 ?_
        refine mz_if_eq X 79 dX12_enter_73 (by decide) hr (fun hr => ?_) (fun hr => ?_)
        · refine lv_iload_n X.1 X.2.1 dX12_enter_79 rfl (mz_at hl 5 rfl) ?_
          refine mz_if_ne X 153 dX12_enter_80 (by decide) hr (fun hr => ?_) (fun hr => ?_)
          · refine mz_aload_n X dX12_enter_153 rfl (mz_at hl 2 rfl) ?_
            refine mz_getR X hH fl_RX12_59 dX12_enter_154 hr (fun v9 hr => ?_)
            refine lv_iload_n X.1 X.2.1 dX12_enter_157 rfl (mz_at hl 4 rfl) ?_
            refine lv_iconst (v := 3) X.1 X.2.1 dX12_enter_158 (by decide) ?_
            refine lv_iadd X.1 X.2.1 dX12_enter_159 ?_
            refine mz_iald X hH dX12_enter_160 hr (fun v10 hr => ?_)
            refine mz_aload_n X dX12_enter_161 rfl (mz_at hl 2 rfl) ?_
            refine lv_iload X.1 X.2.1 dX12_enter_162 (mz_at hl 1 rfl) ?_
            refine lv_iload X.1 X.2.1 dX12_enter_164 (mz_at hl 0 rfl) ?_
            refine mz_kV Value.int X hH hS hl.1.1 [.int v3, .int v4] [.int v10] hr (ct_X12_laneOf l g h a0 v3 v4) mb_RX12_188 rfl im_X12_laneOf rfl (Nat.le_of_ble_eq_true rfl) ⟨Nat.le_of_ble_eq_true rfl, Nat.le_of_ble_eq_true rfl⟩ hc hs dX12_enter_166 rfl (fun v11 h H locs cells slots dc ds hr hH hS hc hs => ?_)
            refine mz_icmp_ne X 190 dX12_enter_169 (by decide) hr (fun hr => ?_) (fun hr => ?_)
            · exact pf_X12_enter_b190 r Y h a0 x1 x2 v3 _ _ hr H locs cells slots ls hH hS (mz_sub hl [2, 3, 4, 1] rfl) hc hs
            · refine mz_aload_n X dX12_enter_172 rfl (mz_at hl 2 rfl) ?_
              refine mz_getR X hH fl_RX12_59 dX12_enter_173 hr (fun v12 hr => ?_)
              refine lv_iload_n X.1 X.2.1 dX12_enter_176 rfl (mz_at hl 4 rfl) ?_
              refine lv_iconst (v := 4) X.1 X.2.1 dX12_enter_177 (by decide) ?_
              refine lv_iadd X.1 X.2.1 dX12_enter_178 ?_
              refine mz_iald X hH dX12_enter_179 hr (fun v13 hr => ?_)
              refine mz_aload_n X dX12_enter_180 rfl (mz_at hl 2 rfl) ?_
              refine mz_getR X hH fl_RX12_38 dX12_enter_181 hr (fun v14 hr => ?_)
              refine lv_iload X.1 X.2.1 dX12_enter_184 (mz_at hl 0 rfl) ?_
              refine mz_iald X hH dX12_enter_186 hr (fun v15 hr => ?_)
              refine mz_icmp_eq X 208 dX12_enter_187 (by decide) hr (fun hr => ?_) (fun hr => ?_)
              · exact pf_X12_enter_b208 r Y hrc13 ih h a0 x1 x2 x3 x4 x5 v4 _ _ hr H locs cells slots ls hH hS (mz_sub hl [2, 3, 4, 5, 6, 7, 0] rfl) hc hs
              · exact pf_X12_enter_b190 r Y h a0 x1 x2 v3 _ _ hr H locs cells slots ls hH hS (mz_sub hl [2, 3, 4, 1] rfl) hc hs
          · refine mz_aload_n X dX12_enter_83 rfl (mz_at hl 2 rfl) ?_
            refine mz_getR X hH fl_RX12_59 dX12_enter_84 hr (fun v16 hr => ?_)
            refine lv_iload_n X.1 X.2.1 dX12_enter_87 rfl (mz_at hl 4 rfl) ?_
            refine lv_iload_n X.1 X.2.1 dX12_enter_88 rfl (mz_at hl 3 rfl) ?_
            refine mz_iast X hH hS dX12_enter_89 hr (fun h H locs hr hH hS => ?_)
            refine mz_aload_n X dX12_enter_90 rfl (mz_at hl 2 rfl) ?_
            refine mz_getR X hH fl_RX12_59 dX12_enter_91 hr (fun v17 hr => ?_)
            refine lv_iload_n X.1 X.2.1 dX12_enter_94 rfl (mz_at hl 4 rfl) ?_
            refine lv_iconst (v := 1) X.1 X.2.1 dX12_enter_95 (by decide) ?_
            refine lv_iadd X.1 X.2.1 dX12_enter_96 ?_
            refine lv_iload X.1 X.2.1 dX12_enter_97 (mz_at hl 1 rfl) ?_
            refine mz_iast X hH hS dX12_enter_99 hr (fun h H locs hr hH hS => ?_)
            refine mz_aload_n X dX12_enter_100 rfl (mz_at hl 2 rfl) ?_
            refine mz_getR X hH fl_RX12_59 dX12_enter_101 hr (fun v18 hr => ?_)
            refine lv_iload_n X.1 X.2.1 dX12_enter_104 rfl (mz_at hl 4 rfl) ?_
            refine lv_iconst (v := 2) X.1 X.2.1 dX12_enter_105 (by decide) ?_
            refine lv_iadd X.1 X.2.1 dX12_enter_106 ?_
            refine lv_iload X.1 X.2.1 dX12_enter_107 (mz_at hl 7 rfl) ?_
            refine mz_iast X hH hS dX12_enter_109 hr (fun h H locs hr hH hS => ?_)
            refine mz_aload_n X dX12_enter_110 rfl (mz_at hl 2 rfl) ?_
            refine mz_getR X hH fl_RX12_59 dX12_enter_111 hr (fun v19 hr => ?_)
            refine lv_iload_n X.1 X.2.1 dX12_enter_114 rfl (mz_at hl 4 rfl) ?_
            refine lv_iconst (v := 3) X.1 X.2.1 dX12_enter_115 (by decide) ?_
            refine lv_iadd X.1 X.2.1 dX12_enter_116 ?_
            refine mz_aload_n X dX12_enter_117 rfl (mz_at hl 2 rfl) ?_
            refine lv_iload X.1 X.2.1 dX12_enter_118 (mz_at hl 1 rfl) ?_
            refine lv_iload X.1 X.2.1 dX12_enter_120 (mz_at hl 0 rfl) ?_
            refine mz_kV Value.int X hH hS hl.1.1 [.int v3, .int v4] [.int (x2 + 3), va_rf v19] hr (ct_X12_laneOf l g h a0 v3 v4) mb_RX12_188 rfl im_X12_laneOf rfl (Nat.le_of_ble_eq_true rfl) ⟨Nat.le_of_ble_eq_true rfl, Nat.le_of_ble_eq_true rfl⟩ hc hs dX12_enter_122 rfl (fun v20 h H locs cells slots dc ds hr hH hS hc hs => ?_)
            refine mz_iast X hH hS dX12_enter_125 hr (fun h H locs hr hH hS => ?_)
            refine mz_aload_n X dX12_enter_126 rfl (mz_at hl 2 rfl) ?_
            refine mz_getR X hH fl_RX12_59 dX12_enter_127 hr (fun v21 hr => ?_)
            refine lv_iload_n X.1 X.2.1 dX12_enter_130 rfl (mz_at hl 4 rfl) ?_
            refine lv_iconst (v := 4) X.1 X.2.1 dX12_enter_131 (by decide) ?_
            refine lv_iadd X.1 X.2.1 dX12_enter_132 ?_
            refine mz_aload_n X dX12_enter_133 rfl (mz_at hl 2 rfl) ?_
            refine mz_getR X hH fl_RX12_38 dX12_enter_134 hr (fun v22 hr => ?_)
            refine lv_iload X.1 X.2.1 dX12_enter_137 (mz_at hl 0 rfl) ?_
            refine mz_iald X hH dX12_enter_139 hr (fun v23 hr => ?_)
            refine mz_iast X hH hS dX12_enter_140 hr (fun h H locs hr hH hS => ?_)
            refine mz_aload_n X dX12_enter_141 rfl (mz_at hl 2 rfl) ?_
            refine mz_getR X hH fl_RX12_59 dX12_enter_142 hr (fun v24 hr => ?_)
            refine lv_iload_n X.1 X.2.1 dX12_enter_145 rfl (mz_at hl 4 rfl) ?_
            refine lv_iconst (v := 5) X.1 X.2.1 dX12_enter_146 (by decide) ?_
            refine lv_iadd X.1 X.2.1 dX12_enter_147 ?_
            refine lv_iconst (v := 0) X.1 X.2.1 dX12_enter_148 (by decide) ?_
            refine mz_iast X hH hS dX12_enter_149 hr (fun h H locs hr hH hS => ?_)
            refine lv_goto (tgt := 208) X.1 X.2.1 dX12_enter_150 (by decide) ?_
            exact pf_X12_enter_b208 r Y hrc13 ih h a0 x1 x2 x3 x4 x5 v4 _ _ hr H locs cells slots ls hH hS (mz_sub hl [2, 3, 4, 5, 6, 7, 0] rfl) hc hs
        · refine lv_goto (tgt := 229) X.1 X.2.1 dX12_enter_76 (by decide) ?_
          exact pf_X12_enter_b229 r Y hrc13 ih h a0 x1 x2 x3 x4 x5 _ _ hr H locs cells slots ls hH hS (mz_sub hl [2, 3, 4, 5, 6, 7] rfl) hc hs
def fn_X12_enter_b13 : Nat → mz_H → (Option Nat) → Int32 → Int32 → Int32 → Int32 → mz_Res Int32
  | 0, _, _, _, _, _, _ => none
  | n + 1, h, a0, x1, x2, x3, x4 =>
    mz_op (mz_fI h a0 11 17) fun v1 =>
    if v1 ≤ x4 then
      if x3 ≤ 0 then
        mz_chk ((1 : Int32) &&& 1 == 1) (mz_ret 1 h)
      else
        mz_op (mz_fR h a0 11 25) fun v2 =>
        mz_op (mz_sI h v2 0 (x2 + 6) x3) fun h =>
        mz_op (mz_fI h a0 11 24) fun v3 =>
        mz_op (mz_pF h a0 11 24 (Value.int (v3 + 1))) fun h =>
        mz_chk ((1 : Int32) &&& 1 == 1) (mz_ret 1 h)
    else
      fn_X12_enter_b25 (fn_X12_enter_b13 n) 1001 h a0 x1 x2 x3 x4 0
set_option maxHeartbeats 4000000 in
set_option maxRecDepth 100000 in
theorem pf_X12_enter_b13 (r : Int32) (Y : mz_Y p g RX12 cX12_enter 8 (some .boolean) "enter" (mz_AF h0) s m args meth c) : ∀ (n : Nat) (h : mz_H) (a0 : (Option Nat)) (x1 : Int32) (x2 : Int32) (x3 : Int32) (x4 : Int32) (dc ds : Nat), fn_X12_enter_b13 n h a0 x1 x2 x3 x4 = some (r, hf, dc, ds) → mz_Go l g p e s m args below meth c 1 24 DC DS h0 (some (Value.int r)) hf 8 13 [(0, false, va_rf a0), (1, false, .int x1), (2, false, .int x2), (3, false, .int x3), (4, false, .int x4)] [] h dc ds := by
  have X := Y.1
  intro n
  induction n with
  | zero => intro h a0 x1 x2 x3 x4 dc ds hr; simp [fn_X12_enter_b13] at hr
  | succ n ih =>
    intro h a0 x1 x2 x3 x4 dc ds hr
    rw [fn_X12_enter_b13] at hr
    intro H locs cells slots ls hH hS hl hc hs
    refine lv_iload X.1 X.2.1 dX12_enter_13 (mz_at hl 4 rfl) ?_
    refine mz_aload_n X dX12_enter_15 rfl (mz_at hl 0 rfl) ?_
    refine mz_getI X hH fl_RX12_149 dX12_enter_16 hr (fun v1 hr => ?_)
    refine mz_icmp_ge X 241 dX12_enter_19 (by decide) hr (fun hr => ?_) (fun hr => ?_)
    · refine lv_iload_n X.1 X.2.1 dX12_enter_241 rfl (mz_at hl 3 rfl) ?_
      refine mz_if_le X 265 dX12_enter_242 (by decide) hr (fun hr => ?_) (fun hr => ?_)
      · refine lv_iconst (v := 1) X.1 X.2.1 dX12_enter_265 (by decide) ?_
        exact mz_zret Y dX12_enter_266 hH hS hc hs hr
      · refine mz_aload_n X dX12_enter_245 rfl (mz_at hl 0 rfl) ?_
        refine mz_getR X hH fl_RX12_59 dX12_enter_246 hr (fun v2 hr => ?_)
        refine lv_iload_n X.1 X.2.1 dX12_enter_249 rfl (mz_at hl 2 rfl) ?_
        refine lv_bipush (v := 6) X.1 X.2.1 dX12_enter_250 (by decide) ?_
        refine lv_iadd X.1 X.2.1 dX12_enter_252 ?_
        refine lv_iload_n X.1 X.2.1 dX12_enter_253 rfl (mz_at hl 3 rfl) ?_
        refine mz_iast X hH hS dX12_enter_254 hr (fun h H locs hr hH hS => ?_)
        refine mz_aload_n X dX12_enter_255 rfl (mz_at hl 0 rfl) ?_
        refine mz_dupR X dX12_enter_256 ?_
        refine mz_getI X hH fl_RX12_181 dX12_enter_257 hr (fun v3 hr => ?_)
        refine lv_iconst (v := 1) X.1 X.2.1 dX12_enter_260 (by decide) ?_
        refine lv_iadd X.1 X.2.1 dX12_enter_261 ?_
        refine mz_put X hH hS fp_RX12_181 dX12_enter_262 rfl rfl hr (fun h H locs hr hH hS => ?_)
        refine lv_iconst (v := 1) X.1 X.2.1 dX12_enter_265 (by decide) ?_
        exact mz_zret Y dX12_enter_266 hH hS hc hs hr
    · refine lv_iconst (v := 0) X.1 X.2.1 dX12_enter_22 (by decide) ?_
      refine mz_istore X [(5, false, .int 0), (0, false, va_rf a0), (1, false, .int x1), (2, false, .int x2), (3, false, .int x3), (4, false, .int x4)] dX12_enter_23 hl (by decide) rfl (fun ls hl => ?_)
      exact pf_X12_enter_b25 r Y ih 1001 h a0 x1 x2 x3 x4 0 _ _ hr H locs cells slots ls hH hS (mz_sub hl [1, 2, 3, 4, 5, 0] rfl) hc hs
def fn_X12_enter (h : mz_H) (a0 : (Option Nat)) (x1 : Int32) : mz_Res Int32 :=
  mz_op (mz_fI h a0 11 24) fun v1 =>
  mz_op (some (7 * v1)) fun v2 =>
  fn_X12_enter_b13 1001 h a0 x1 v2 0 0
set_option maxHeartbeats 4000000 in
set_option maxRecDepth 100000 in
theorem pf_X12_enter_b0 (r : Int32) (Y : mz_Y p g RX12 cX12_enter 8 (some .boolean) "enter" (mz_AF h0) s m args meth c) (h : mz_H) (a0 : (Option Nat)) (x1 : Int32) (dc ds : Nat) (hr : fn_X12_enter h a0 x1 = some (r, hf, dc, ds)) : mz_Go l g p e s m args below meth c 1 24 DC DS h0 (some (Value.int r)) hf 8 0 [(0, false, va_rf a0), (1, false, .int x1)] [] h dc ds := by
  unfold fn_X12_enter at hr
  intro H locs cells slots ls hH hS hl hc hs
  have X := Y.1
  refine lv_bipush (v := 7) X.1 X.2.1 dX12_enter_0 (by decide) ?_
  refine mz_aload_n X dX12_enter_2 rfl (mz_at hl 0 rfl) ?_
  refine mz_getI X hH fl_RX12_181 dX12_enter_3 hr (fun v1 hr => ?_)
  refine lv_imul X.1 X.2.1 dX12_enter_6 ?_
  refine mz_topi hr (fun v2 hv2 hr => ?_)
  refine mz_istore_n X [(2, false, .int v2), (0, false, va_rf a0), (1, false, .int x1)] dX12_enter_7 rfl hl (by decide) rfl (fun ls hl => ?_)
  refine lv_iconst (v := 0) X.1 X.2.1 dX12_enter_8 (by decide) ?_
  refine mz_istore_n X [(3, false, .int 0), (2, false, .int v2), (0, false, va_rf a0), (1, false, .int x1)] dX12_enter_9 rfl hl (by decide) rfl (fun ls hl => ?_)
  refine lv_iconst (v := 0) X.1 X.2.1 dX12_enter_10 (by decide) ?_
  refine mz_istore X [(4, false, .int 0), (3, false, .int 0), (2, false, .int v2), (0, false, va_rf a0), (1, false, .int x1)] dX12_enter_11 hl (by decide) rfl (fun ls hl => ?_)
  exact pf_X12_enter_b13 r Y 1001 h a0 x1 v2 0 0 _ _ hr H locs cells slots ls hH hS (mz_sub hl [3, 4, 2, 1, 0] rfl) hc hs
set_option maxRecDepth 100000 in
theorem ct_X12_enter (l : Launch) (g : mz_G) (h : mz_H) (a0 : (Option Nat)) (x1 : Int32) (r : Int32) (hf : mz_H) (k n : Nat) (hr : fn_X12_enter h a0 x1 = some (r, hf, k, n)) : mz_C l g yX12_enter cX12_enter 8 (some .boolean) 1 24 [va_rf a0, .int x1] h (some (Value.int r)) hf k n := by
  refine mz_met (as := [(false, va_rf a0), (false, .int x1)]) (plainFor_of_name (by decide)) (mz_c1 (mz_cat_rf _) (mz_c1 rfl mz_c0)) (Nat.le_of_ble_eq_true rfl) ?_
  intro p e s m args below meth c Y
  exact pf_X12_enter_b0 r Y h a0 x1 _ _ hr
theorem dX12_makeTable_0 : decode cX12_makeTable 0 = .ok (.aload_n 0, 1) := by decide +kernel
theorem dX12_makeTable_1 : decode cX12_makeTable 1 = .ok (.iload_n 1, 1) := by decide +kernel
theorem dX12_makeTable_2 : decode cX12_makeTable 2 = .ok (.invokevirtual 159, 3) := by decide +kernel
theorem dX12_makeTable_5 : decode cX12_makeTable 5 = .ok (.aload_n 0, 1) := by decide +kernel
theorem dX12_makeTable_6 : decode cX12_makeTable 6 = .ok (.iconst 0, 1) := by decide +kernel
theorem dX12_makeTable_7 : decode cX12_makeTable 7 = .ok (.putfield 169, 3) := by decide +kernel
theorem dX12_makeTable_10 : decode cX12_makeTable 10 = .ok (.aload_n 0, 1) := by decide +kernel
theorem dX12_makeTable_11 : decode cX12_makeTable 11 = .ok (.bipush (-9), 2) := by decide +kernel
theorem dX12_makeTable_13 : decode cX12_makeTable 13 = .ok (.putfield 172, 3) := by decide +kernel
theorem dX12_makeTable_16 : decode cX12_makeTable 16 = .ok (.aload_n 0, 1) := by decide +kernel
theorem dX12_makeTable_17 : decode cX12_makeTable 17 = .ok (.bipush (-9), 2) := by decide +kernel
theorem dX12_makeTable_19 : decode cX12_makeTable 19 = .ok (.putfield 175, 3) := by decide +kernel
theorem dX12_makeTable_22 : decode cX12_makeTable 22 = .ok (.aload_n 0, 1) := by decide +kernel
theorem dX12_makeTable_23 : decode cX12_makeTable 23 = .ok (.bipush (-9), 2) := by decide +kernel
theorem dX12_makeTable_25 : decode cX12_makeTable 25 = .ok (.putfield 178, 3) := by decide +kernel
theorem dX12_makeTable_28 : decode cX12_makeTable 28 = .ok (.aload_n 0, 1) := by decide +kernel
theorem dX12_makeTable_29 : decode cX12_makeTable 29 = .ok (.iconst 0, 1) := by decide +kernel
theorem dX12_makeTable_30 : decode cX12_makeTable 30 = .ok (.putfield 181, 3) := by decide +kernel
theorem dX12_makeTable_33 : decode cX12_makeTable 33 = .ok (.aload_n 0, 1) := by decide +kernel
theorem dX12_makeTable_34 : decode cX12_makeTable 34 = .ok (.invokevirtual 192, 3) := by decide +kernel
theorem dX12_makeTable_37 : decode cX12_makeTable 37 = .ok (.ifCond .eq 4, 3) := by decide +kernel
theorem dX12_makeTable_40 : decode cX12_makeTable 40 = .ok (.return_, 1) := by decide +kernel
theorem dX12_makeTable_41 : decode cX12_makeTable 41 = .ok (.iconst 1, 1) := by decide +kernel
theorem dX12_makeTable_42 : decode cX12_makeTable 42 = .ok (.istore_n 2, 1) := by decide +kernel
theorem dX12_makeTable_43 : decode cX12_makeTable 43 = .ok (.iconst 0, 1) := by decide +kernel
theorem dX12_makeTable_44 : decode cX12_makeTable 44 = .ok (.istore_n 3, 1) := by decide +kernel
theorem dX12_makeTable_45 : decode cX12_makeTable 45 = .ok (.iload_n 3, 1) := by decide +kernel
theorem dX12_makeTable_46 : decode cX12_makeTable 46 = .ok (.bipush 31, 2) := by decide +kernel
theorem dX12_makeTable_48 : decode cX12_makeTable 48 = .ok (.if_icmp .ge 19, 3) := by decide +kernel
theorem dX12_makeTable_51 : decode cX12_makeTable 51 = .ok (.iload_n 2, 1) := by decide +kernel
theorem dX12_makeTable_52 : decode cX12_makeTable 52 = .ok (.ifCond .eq 15, 3) := by decide +kernel
theorem dX12_makeTable_55 : decode cX12_makeTable 55 = .ok (.aload_n 0, 1) := by decide +kernel
theorem dX12_makeTable_56 : decode cX12_makeTable 56 = .ok (.iload_n 3, 1) := by decide +kernel
theorem dX12_makeTable_57 : decode cX12_makeTable 57 = .ok (.invokevirtual 196, 3) := by decide +kernel
theorem dX12_makeTable_60 : decode cX12_makeTable 60 = .ok (.istore_n 2, 1) := by decide +kernel
theorem dX12_makeTable_61 : decode cX12_makeTable 61 = .ok (.iinc 3 1, 3) := by decide +kernel
theorem dX12_makeTable_64 : decode cX12_makeTable 64 = .ok (.goto (-19), 3) := by decide +kernel
theorem dX12_makeTable_67 : decode cX12_makeTable 67 = .ok (.iconst 0, 1) := by decide +kernel
theorem dX12_makeTable_68 : decode cX12_makeTable 68 = .ok (.istore_n 3, 1) := by decide +kernel
theorem dX12_makeTable_69 : decode cX12_makeTable 69 = .ok (.iconst 0, 1) := by decide +kernel
theorem dX12_makeTable_70 : decode cX12_makeTable 70 = .ok (.istore 4, 2) := by decide +kernel
theorem dX12_makeTable_72 : decode cX12_makeTable 72 = .ok (.iload 4, 2) := by decide +kernel
theorem dX12_makeTable_74 : decode cX12_makeTable 74 = .ok (.aload_n 0, 1) := by decide +kernel
theorem dX12_makeTable_75 : decode cX12_makeTable 75 = .ok (.getfield 181, 3) := by decide +kernel
theorem dX12_makeTable_78 : decode cX12_makeTable 78 = .ok (.if_icmp .ge 74, 3) := by decide +kernel
theorem dX12_makeTable_81 : decode cX12_makeTable 81 = .ok (.iload_n 2, 1) := by decide +kernel
theorem dX12_makeTable_82 : decode cX12_makeTable 82 = .ok (.ifCond .eq 70, 3) := by decide +kernel
theorem dX12_makeTable_85 : decode cX12_makeTable 85 = .ok (.iload_n 3, 1) := by decide +kernel
theorem dX12_makeTable_86 : decode cX12_makeTable 86 = .ok (.aload_n 0, 1) := by decide +kernel
theorem dX12_makeTable_87 : decode cX12_makeTable 87 = .ok (.getfield 59, 3) := by decide +kernel
theorem dX12_makeTable_90 : decode cX12_makeTable 90 = .ok (.bipush 7, 2) := by decide +kernel
theorem dX12_makeTable_92 : decode cX12_makeTable 92 = .ok (.iload 4, 2) := by decide +kernel
theorem dX12_makeTable_94 : decode cX12_makeTable 94 = .ok (.imul, 1) := by decide +kernel
theorem dX12_makeTable_95 : decode cX12_makeTable 95 = .ok (.iconst 5, 1) := by decide +kernel
theorem dX12_makeTable_96 : decode cX12_makeTable 96 = .ok (.iadd, 1) := by decide +kernel
theorem dX12_makeTable_97 : decode cX12_makeTable 97 = .ok (.iaload, 1) := by decide +kernel
theorem dX12_makeTable_98 : decode cX12_makeTable 98 = .ok (.iconst 4, 1) := by decide +kernel
theorem dX12_makeTable_99 : decode cX12_makeTable 99 = .ok (.iand, 1) := by decide +kernel
theorem dX12_makeTable_100 : decode cX12_makeTable 100 = .ok (.ifCond .eq 7, 3) := by decide +kernel
theorem dX12_makeTable_103 : decode cX12_makeTable 103 = .ok (.iconst 1, 1) := by decide +kernel
theorem dX12_makeTable_104 : decode cX12_makeTable 104 = .ok (.goto 4, 3) := by decide +kernel
theorem dX12_makeTable_107 : decode cX12_makeTable 107 = .ok (.iconst 0, 1) := by decide +kernel
theorem dX12_makeTable_108 : decode cX12_makeTable 108 = .ok (.iadd, 1) := by decide +kernel
theorem dX12_makeTable_109 : decode cX12_makeTable 109 = .ok (.istore_n 3, 1) := by decide +kernel
theorem dX12_makeTable_110 : decode cX12_makeTable 110 = .ok (.iload_n 3, 1) := by decide +kernel
theorem dX12_makeTable_111 : decode cX12_makeTable 111 = .ok (.iconst 2, 1) := by decide +kernel
theorem dX12_makeTable_112 : decode cX12_makeTable 112 = .ok (.if_icmp .ne 34, 3) := by decide +kernel
theorem dX12_makeTable_115 : decode cX12_makeTable 115 = .ok (.aload_n 0, 1) := by decide +kernel
theorem dX12_makeTable_116 : decode cX12_makeTable 116 = .ok (.iconst 3, 1) := by decide +kernel
theorem dX12_makeTable_117 : decode cX12_makeTable 117 = .ok (.aload_n 0, 1) := by decide +kernel
theorem dX12_makeTable_118 : decode cX12_makeTable 118 = .ok (.getfield 59, 3) := by decide +kernel
theorem dX12_makeTable_121 : decode cX12_makeTable 121 = .ok (.bipush 7, 2) := by decide +kernel
theorem dX12_makeTable_123 : decode cX12_makeTable 123 = .ok (.iload 4, 2) := by decide +kernel
theorem dX12_makeTable_125 : decode cX12_makeTable 125 = .ok (.imul, 1) := by decide +kernel
theorem dX12_makeTable_126 : decode cX12_makeTable 126 = .ok (.iaload, 1) := by decide +kernel
theorem dX12_makeTable_127 : decode cX12_makeTable 127 = .ok (.aload_n 0, 1) := by decide +kernel
theorem dX12_makeTable_128 : decode cX12_makeTable 128 = .ok (.getfield 59, 3) := by decide +kernel
theorem dX12_makeTable_131 : decode cX12_makeTable 131 = .ok (.bipush 7, 2) := by decide +kernel
theorem dX12_makeTable_133 : decode cX12_makeTable 133 = .ok (.iload 4, 2) := by decide +kernel
theorem dX12_makeTable_135 : decode cX12_makeTable 135 = .ok (.imul, 1) := by decide +kernel
theorem dX12_makeTable_136 : decode cX12_makeTable 136 = .ok (.iconst 1, 1) := by decide +kernel
theorem dX12_makeTable_137 : decode cX12_makeTable 137 = .ok (.iadd, 1) := by decide +kernel
theorem dX12_makeTable_138 : decode cX12_makeTable 138 = .ok (.iaload, 1) := by decide +kernel
theorem dX12_makeTable_139 : decode cX12_makeTable 139 = .ok (.bipush (-9), 2) := by decide +kernel
theorem dX12_makeTable_141 : decode cX12_makeTable 141 = .ok (.invokevirtual 184, 3) := by decide +kernel
theorem dX12_makeTable_144 : decode cX12_makeTable 144 = .ok (.iconst 0, 1) := by decide +kernel
theorem dX12_makeTable_145 : decode cX12_makeTable 145 = .ok (.istore_n 2, 1) := by decide +kernel
theorem dX12_makeTable_146 : decode cX12_makeTable 146 = .ok (.iinc 4 1, 3) := by decide +kernel
theorem dX12_makeTable_149 : decode cX12_makeTable 149 = .ok (.goto (-77), 3) := by decide +kernel
theorem dX12_makeTable_152 : decode cX12_makeTable 152 = .ok (.return_, 1) := by decide +kernel
def fn_X12_makeTable_b146 (rc72 : mz_H → (Option Nat) → Int32 → Int32 → Int32 → mz_Res Unit) (h : mz_H) (a0 : (Option Nat)) (x2 : Int32) (x3 : Int32) (x4 : Int32) : mz_Res Unit :=
  mz_op (some (x4 + 1)) fun v1 =>
  rc72 h a0 x2 x3 v1
set_option maxHeartbeats 4000000 in
set_option maxRecDepth 100000 in
theorem pf_X12_makeTable_b146 (r : Unit) (Y : mz_Y p g RX12 cX12_makeTable 5 none "makeTable" (mz_AF h0) s m args meth c) {rc72 : mz_H → (Option Nat) → Int32 → Int32 → Int32 → mz_Res Unit} (hrc72 : ∀ (h : mz_H) (a0 : (Option Nat)) (x2 : Int32) (x3 : Int32) (x4 : Int32) (dc ds : Nat), rc72 h a0 x2 x3 x4 = some (r, hf, dc, ds) → mz_Go l g p e s m args below meth c 2 51 DC DS h0 none hf 5 72 [(0, false, va_rf a0), (2, false, .int x2), (3, false, .int x3), (4, false, .int x4)] [] h dc ds) (h : mz_H) (a0 : (Option Nat)) (x2 : Int32) (x3 : Int32) (x4 : Int32) (dc ds : Nat) (hr : fn_X12_makeTable_b146 rc72 h a0 x2 x3 x4 = some (r, hf, dc, ds)) : mz_Go l g p e s m args below meth c 2 51 DC DS h0 none hf 5 146 [(0, false, va_rf a0), (2, false, .int x2), (3, false, .int x3), (4, false, .int x4)] [] h dc ds := by
  unfold fn_X12_makeTable_b146 at hr
  intro H locs cells slots ls hH hS hl hc hs
  have X := Y.1
  obtain ⟨v1, hv1, hr⟩ := mz_op_some hr
  have hv1 := Option.some.inj hv1
  refine mz_iinc (k := 3) X [(4, false, .int v1), (0, false, va_rf a0), (2, false, .int x2), (3, false, .int x3)] v1 dX12_makeTable_146 hl rfl hv1 (by decide) rfl (fun ls hl => ?_)
  refine lv_goto (tgt := 72) X.1 X.2.1 dX12_makeTable_149 (by decide) ?_
  exact hrc72 h a0 x2 x3 v1 _ _ hr H locs cells slots ls hH hS (mz_sub hl [1, 2, 3, 0] rfl) hc hs
def fn_X12_makeTable_b108 (rc72 : mz_H → (Option Nat) → Int32 → Int32 → Int32 → mz_Res Unit) (h : mz_H) (a0 : (Option Nat)) (x2 : Int32) (x4 : Int32) (s0 : Int32) (s1 : Int32) : mz_Res Unit :=
  mz_op (some (s0 + s1)) fun v1 =>
  if v1 = 2 then
    mz_op (mz_fR h a0 11 25) fun v2 =>
    mz_op (mz_aI h v2 0 (7 * x4)) fun v3 =>
    mz_op (mz_fR h a0 11 25) fun v4 =>
    mz_op (mz_aI h v4 0 ((7 * x4) + 1)) fun v5 =>
    mz_chk (mz_is h a0 11) <| mz_call (fn_X12_breaks h a0 3 v3 v5 (-9)) fun _ h =>
    fn_X12_makeTable_b146 rc72 h a0 0 v1 x4
  else
    fn_X12_makeTable_b146 rc72 h a0 x2 v1 x4
set_option maxHeartbeats 4000000 in
set_option maxRecDepth 100000 in
theorem pf_X12_makeTable_b108 (r : Unit) (Y : mz_Y p g RX12 cX12_makeTable 5 none "makeTable" (mz_AF h0) s m args meth c) {rc72 : mz_H → (Option Nat) → Int32 → Int32 → Int32 → mz_Res Unit} (hrc72 : ∀ (h : mz_H) (a0 : (Option Nat)) (x2 : Int32) (x3 : Int32) (x4 : Int32) (dc ds : Nat), rc72 h a0 x2 x3 x4 = some (r, hf, dc, ds) → mz_Go l g p e s m args below meth c 2 51 DC DS h0 none hf 5 72 [(0, false, va_rf a0), (2, false, .int x2), (3, false, .int x3), (4, false, .int x4)] [] h dc ds) (h : mz_H) (a0 : (Option Nat)) (x2 : Int32) (x4 : Int32) (s0 : Int32) (s1 : Int32) (dc ds : Nat) (hr : fn_X12_makeTable_b108 rc72 h a0 x2 x4 s0 s1 = some (r, hf, dc, ds)) : mz_Go l g p e s m args below meth c 2 51 DC DS h0 none hf 5 108 [(0, false, va_rf a0), (2, false, .int x2), (4, false, .int x4)] [.int s1, .int s0] h dc ds := by
  unfold fn_X12_makeTable_b108 at hr
  intro H locs cells slots ls hH hS hl hc hs
  have X := Y.1
  refine lv_iadd X.1 X.2.1 dX12_makeTable_108 ?_
  refine mz_topi hr (fun v1 hv1 hr => ?_)
  refine mz_istore_n X [(3, false, .int v1), (0, false, va_rf a0), (2, false, .int x2), (4, false, .int x4)] dX12_makeTable_109 rfl hl (by decide) rfl (fun ls hl => ?_)
  refine lv_iload_n X.1 X.2.1 dX12_makeTable_110 rfl (mz_at hl 0 rfl) ?_
  refine lv_iconst (v := 2) X.1 X.2.1 dX12_makeTable_111 (by decide) ?_
  refine mz_icmp_ne X 146 dX12_makeTable_112 (by decide) hr (fun hr => ?_) (fun hr => ?_)
  · exact pf_X12_makeTable_b146 r Y hrc72 h a0 x2 v1 x4 _ _ hr H locs cells slots ls hH hS (mz_sub hl [1, 2, 0, 3] rfl) hc hs
  · refine mz_aload_n X dX12_makeTable_115 rfl (mz_at hl 1 rfl) ?_
    refine lv_iconst (v := 3) X.1 X.2.1 dX12_makeTable_116 (by decide) ?_
    refine mz_aload_n X dX12_makeTable_117 rfl (mz_at hl 1 rfl) ?_
    refine mz_getR X hH fl_RX12_59 dX12_makeTable_118 hr (fun v2 hr => ?_)
    refine lv_bipush (v := 7) X.1 X.2.1 dX12_makeTable_121 (by decide) ?_
    refine lv_iload X.1 X.2.1 dX12_makeTable_123 (mz_at hl 3 rfl) ?_
    refine lv_imul X.1 X.2.1 dX12_makeTable_125 ?_
    refine mz_iald X hH dX12_makeTable_126 hr (fun v3 hr => ?_)
    refine mz_aload_n X dX12_makeTable_127 rfl (mz_at hl 1 rfl) ?_
    refine mz_getR X hH fl_RX12_59 dX12_makeTable_128 hr (fun v4 hr => ?_)
    refine lv_bipush (v := 7) X.1 X.2.1 dX12_makeTable_131 (by decide) ?_
    refine lv_iload X.1 X.2.1 dX12_makeTable_133 (mz_at hl 3 rfl) ?_
    refine lv_imul X.1 X.2.1 dX12_makeTable_135 ?_
    refine lv_iconst (v := 1) X.1 X.2.1 dX12_makeTable_136 (by decide) ?_
    refine lv_iadd X.1 X.2.1 dX12_makeTable_137 ?_
    refine mz_iald X hH dX12_makeTable_138 hr (fun v5 hr => ?_)
    refine lv_bipush (v := (-9)) X.1 X.2.1 dX12_makeTable_139 (by decide) ?_
    refine mz_kV0 X hH hS hl.1.1 [.int 3, .int v3, .int v5, .int (-9)] [] hr (ct_X12_breaks l g h a0 3 v3 v5 (-9)) mb_RX12_184 rfl im_X12_breaks rfl (Nat.le_of_ble_eq_true rfl) ⟨Nat.le_of_ble_eq_true rfl, Nat.le_of_ble_eq_true rfl⟩ hc hs dX12_makeTable_141 rfl (fun _ h H locs cells slots dc ds hr hH hS hc hs => ?_)
    refine lv_iconst (v := 0) X.1 X.2.1 dX12_makeTable_144 (by decide) ?_
    refine mz_istore_n X [(2, false, .int 0), (3, false, .int v1), (0, false, va_rf a0), (4, false, .int x4)] dX12_makeTable_145 rfl hl (by decide) rfl (fun ls hl => ?_)
    exact pf_X12_makeTable_b146 r Y hrc72 h a0 0 v1 x4 _ _ hr H locs cells slots ls hH hS (mz_sub hl [2, 0, 1, 3] rfl) hc hs
def fn_X12_makeTable_b72 : Nat → mz_H → (Option Nat) → Int32 → Int32 → Int32 → mz_Res Unit
  | 0, _, _, _, _, _ => none
  | n + 1, h, a0, x2, x3, x4 =>
    mz_op (mz_fI h a0 11 24) fun v1 =>
    if v1 ≤ x4 then
      mz_ret () h
    else
      if x2 = 0 then
        mz_ret () h
      else
        mz_op (mz_fR h a0 11 25) fun v2 =>
        mz_op (mz_aI h v2 0 ((7 * x4) + 5)) fun v3 =>
        if (v3 &&& 4) = 0 then
          fn_X12_makeTable_b108 (fn_X12_makeTable_b72 n) h a0 x2 x4 x3 0
        else
          fn_X12_makeTable_b108 (fn_X12_makeTable_b72 n) h a0 x2 x4 x3 1
set_option maxHeartbeats 4000000 in
set_option maxRecDepth 100000 in
theorem pf_X12_makeTable_b72 (r : Unit) (Y : mz_Y p g RX12 cX12_makeTable 5 none "makeTable" (mz_AF h0) s m args meth c) : ∀ (n : Nat) (h : mz_H) (a0 : (Option Nat)) (x2 : Int32) (x3 : Int32) (x4 : Int32) (dc ds : Nat), fn_X12_makeTable_b72 n h a0 x2 x3 x4 = some (r, hf, dc, ds) → mz_Go l g p e s m args below meth c 2 51 DC DS h0 none hf 5 72 [(0, false, va_rf a0), (2, false, .int x2), (3, false, .int x3), (4, false, .int x4)] [] h dc ds := by
  have X := Y.1
  intro n
  induction n with
  | zero => intro h a0 x2 x3 x4 dc ds hr; simp [fn_X12_makeTable_b72] at hr
  | succ n ih =>
    intro h a0 x2 x3 x4 dc ds hr
    rw [fn_X12_makeTable_b72] at hr
    intro H locs cells slots ls hH hS hl hc hs
    refine lv_iload X.1 X.2.1 dX12_makeTable_72 (mz_at hl 3 rfl) ?_
    refine mz_aload_n X dX12_makeTable_74 rfl (mz_at hl 0 rfl) ?_
    refine mz_getI X hH fl_RX12_181 dX12_makeTable_75 hr (fun v1 hr => ?_)
    refine mz_icmp_ge X 152 dX12_makeTable_78 (by decide) hr (fun hr => ?_) (fun hr => ?_)
    · exact mz_vret Y dX12_makeTable_152 hH hS hc hs hr
    · refine lv_iload_n X.1 X.2.1 dX12_makeTable_81 rfl (mz_at hl 1 rfl) ?_
      refine mz_if_eq X 152 dX12_makeTable_82 (by decide) hr (fun hr => ?_) (fun hr => ?_)
      · exact mz_vret Y dX12_makeTable_152 hH hS hc hs hr
      · refine lv_iload_n X.1 X.2.1 dX12_makeTable_85 rfl (mz_at hl 2 rfl) ?_
        refine mz_aload_n X dX12_makeTable_86 rfl (mz_at hl 0 rfl) ?_
        refine mz_getR X hH fl_RX12_59 dX12_makeTable_87 hr (fun v2 hr => ?_)
        refine lv_bipush (v := 7) X.1 X.2.1 dX12_makeTable_90 (by decide) ?_
        refine lv_iload X.1 X.2.1 dX12_makeTable_92 (mz_at hl 3 rfl) ?_
        refine lv_imul X.1 X.2.1 dX12_makeTable_94 ?_
        refine lv_iconst (v := 5) X.1 X.2.1 dX12_makeTable_95 (by decide) ?_
        refine lv_iadd X.1 X.2.1 dX12_makeTable_96 ?_
        refine mz_iald X hH dX12_makeTable_97 hr (fun v3 hr => ?_)
        refine lv_iconst (v := 4) X.1 X.2.1 dX12_makeTable_98 (by decide) ?_
        refine lv_iand X.1 X.2.1 dX12_makeTable_99 ?_
        refine mz_if_eq X 107 dX12_makeTable_100 (by decide) hr (fun hr => ?_) (fun hr => ?_)
        · refine lv_iconst (v := 0) X.1 X.2.1 dX12_makeTable_107 (by decide) ?_
          exact pf_X12_makeTable_b108 r Y ih h a0 x2 x4 x3 0 _ _ hr H locs cells slots ls hH hS (mz_sub hl [0, 1, 3] rfl) hc hs
        · refine lv_iconst (v := 1) X.1 X.2.1 dX12_makeTable_103 (by decide) ?_
          refine lv_goto (tgt := 108) X.1 X.2.1 dX12_makeTable_104 (by decide) ?_
          exact pf_X12_makeTable_b108 r Y ih h a0 x2 x4 x3 1 _ _ hr H locs cells slots ls hH hS (mz_sub hl [0, 1, 3] rfl) hc hs
def fn_X12_makeTable_b67 (h : mz_H) (a0 : (Option Nat)) (x2 : Int32) : mz_Res Unit :=
  fn_X12_makeTable_b72 1001 h a0 x2 0 0
set_option maxHeartbeats 4000000 in
set_option maxRecDepth 100000 in
theorem pf_X12_makeTable_b67 (r : Unit) (Y : mz_Y p g RX12 cX12_makeTable 5 none "makeTable" (mz_AF h0) s m args meth c) (h : mz_H) (a0 : (Option Nat)) (x2 : Int32) (dc ds : Nat) (hr : fn_X12_makeTable_b67 h a0 x2 = some (r, hf, dc, ds)) : mz_Go l g p e s m args below meth c 2 51 DC DS h0 none hf 5 67 [(0, false, va_rf a0), (2, false, .int x2)] [] h dc ds := by
  unfold fn_X12_makeTable_b67 at hr
  intro H locs cells slots ls hH hS hl hc hs
  have X := Y.1
  refine lv_iconst (v := 0) X.1 X.2.1 dX12_makeTable_67 (by decide) ?_
  refine mz_istore_n X [(3, false, .int 0), (0, false, va_rf a0), (2, false, .int x2)] dX12_makeTable_68 rfl hl (by decide) rfl (fun ls hl => ?_)
  refine lv_iconst (v := 0) X.1 X.2.1 dX12_makeTable_69 (by decide) ?_
  refine mz_istore X [(4, false, .int 0), (3, false, .int 0), (0, false, va_rf a0), (2, false, .int x2)] dX12_makeTable_70 hl (by decide) rfl (fun ls hl => ?_)
  exact pf_X12_makeTable_b72 r Y 1001 h a0 x2 0 0 _ _ hr H locs cells slots ls hH hS (mz_sub hl [2, 3, 1, 0] rfl) hc hs
def fn_X12_makeTable_b45 : Nat → mz_H → (Option Nat) → Int32 → Int32 → mz_Res Unit
  | 0, _, _, _, _ => none
  | n + 1, h, a0, x2, x3 =>
    if 31 ≤ x3 then
      fn_X12_makeTable_b67 h a0 x2
    else
      if x2 = 0 then
        fn_X12_makeTable_b67 h a0 x2
      else
        mz_chk (mz_is h a0 11) <| mz_call (fn_X12_enter h a0 x3) fun v1 h =>
        mz_op (some (x3 + 1)) fun v2 =>
        fn_X12_makeTable_b45 n h a0 v1 v2
set_option maxHeartbeats 4000000 in
set_option maxRecDepth 100000 in
theorem pf_X12_makeTable_b45 (r : Unit) (Y : mz_Y p g RX12 cX12_makeTable 5 none "makeTable" (mz_AF h0) s m args meth c) : ∀ (n : Nat) (h : mz_H) (a0 : (Option Nat)) (x2 : Int32) (x3 : Int32) (dc ds : Nat), fn_X12_makeTable_b45 n h a0 x2 x3 = some (r, hf, dc, ds) → mz_Go l g p e s m args below meth c 2 51 DC DS h0 none hf 5 45 [(0, false, va_rf a0), (2, false, .int x2), (3, false, .int x3)] [] h dc ds := by
  have X := Y.1
  intro n
  induction n with
  | zero => intro h a0 x2 x3 dc ds hr; simp [fn_X12_makeTable_b45] at hr
  | succ n ih =>
    intro h a0 x2 x3 dc ds hr
    rw [fn_X12_makeTable_b45] at hr
    intro H locs cells slots ls hH hS hl hc hs
    refine lv_iload_n X.1 X.2.1 dX12_makeTable_45 rfl (mz_at hl 2 rfl) ?_
    refine lv_bipush (v := 31) X.1 X.2.1 dX12_makeTable_46 (by decide) ?_
    refine mz_icmp_ge X 67 dX12_makeTable_48 (by decide) hr (fun hr => ?_) (fun hr => ?_)
    · exact pf_X12_makeTable_b67 r Y h a0 x2 _ _ hr H locs cells slots ls hH hS (mz_sub hl [0, 1] rfl) hc hs
    · refine lv_iload_n X.1 X.2.1 dX12_makeTable_51 rfl (mz_at hl 1 rfl) ?_
      refine mz_if_eq X 67 dX12_makeTable_52 (by decide) hr (fun hr => ?_) (fun hr => ?_)
      · exact pf_X12_makeTable_b67 r Y h a0 x2 _ _ hr H locs cells slots ls hH hS (mz_sub hl [0, 1] rfl) hc hs
      · refine mz_aload_n X dX12_makeTable_55 rfl (mz_at hl 0 rfl) ?_
        refine lv_iload_n X.1 X.2.1 dX12_makeTable_56 rfl (mz_at hl 2 rfl) ?_
        refine mz_kV Value.int X hH hS hl.1.1 [.int x3] [] hr (ct_X12_enter l g h a0 x3) mb_RX12_196 rfl im_X12_enter rfl (Nat.le_of_ble_eq_true rfl) ⟨Nat.le_of_ble_eq_true rfl, Nat.le_of_ble_eq_true rfl⟩ hc hs dX12_makeTable_57 rfl (fun v1 h H locs cells slots dc ds hr hH hS hc hs => ?_)
        refine mz_istore_n X [(2, false, .int v1), (0, false, va_rf a0), (3, false, .int x3)] dX12_makeTable_60 rfl hl (by decide) rfl (fun ls hl => ?_)
        obtain ⟨v2, hv2, hr⟩ := mz_op_some hr
        have hv2 := Option.some.inj hv2
        refine mz_iinc (k := 2) X [(3, false, .int v2), (2, false, .int v1), (0, false, va_rf a0)] v2 dX12_makeTable_61 hl rfl hv2 (by decide) rfl (fun ls hl => ?_)
        refine lv_goto (tgt := 45) X.1 X.2.1 dX12_makeTable_64 (by decide) ?_
        exact ih h a0 v1 v2 _ _ hr H locs cells slots ls hH hS (mz_sub hl [2, 1, 0] rfl) hc hs
def fn_X12_makeTable (h : mz_H) (a0 : (Option Nat)) (x1 : Int32) : mz_Res Unit :=
  mz_chk (mz_is h a0 11) <| mz_call (fn_X12_findWay h a0 x1) fun _ h =>
  mz_op (mz_pF h a0 11 20 (Value.int 0)) fun h =>
  mz_op (mz_pF h a0 11 21 (Value.int (-9))) fun h =>
  mz_op (mz_pF h a0 11 22 (Value.int (-9))) fun h =>
  mz_op (mz_pF h a0 11 23 (Value.int (-9))) fun h =>
  mz_op (mz_pF h a0 11 24 (Value.int 0)) fun h =>
  mz_chk (mz_is h a0 11) <| mz_call (fn_X12_hasStaticKey h a0) fun v1 h =>
  if v1 = 0 then
    fn_X12_makeTable_b45 1001 h a0 1 0
  else
    mz_ret () h
set_option maxHeartbeats 4000000 in
set_option maxRecDepth 100000 in
theorem pf_X12_makeTable_b0 (r : Unit) (Y : mz_Y p g RX12 cX12_makeTable 5 none "makeTable" (mz_AF h0) s m args meth c) (h : mz_H) (a0 : (Option Nat)) (x1 : Int32) (dc ds : Nat) (hr : fn_X12_makeTable h a0 x1 = some (r, hf, dc, ds)) : mz_Go l g p e s m args below meth c 2 51 DC DS h0 none hf 5 0 [(0, false, va_rf a0), (1, false, .int x1)] [] h dc ds := by
  unfold fn_X12_makeTable at hr
  intro H locs cells slots ls hH hS hl hc hs
  have X := Y.1
  refine mz_aload_n X dX12_makeTable_0 rfl (mz_at hl 0 rfl) ?_
  refine lv_iload_n X.1 X.2.1 dX12_makeTable_1 rfl (mz_at hl 1 rfl) ?_
  refine mz_kV0 X hH hS hl.1.1 [.int x1] [] hr (ct_X12_findWay l g h a0 x1) mb_RX12_159 rfl im_X12_findWay rfl (Nat.le_of_ble_eq_true rfl) ⟨Nat.le_of_ble_eq_true rfl, Nat.le_of_ble_eq_true rfl⟩ hc hs dX12_makeTable_2 rfl (fun _ h H locs cells slots dc ds hr hH hS hc hs => ?_)
  refine mz_aload_n X dX12_makeTable_5 rfl (mz_at hl 0 rfl) ?_
  refine lv_iconst (v := 0) X.1 X.2.1 dX12_makeTable_6 (by decide) ?_
  refine mz_put X hH hS fp_RX12_169 dX12_makeTable_7 rfl rfl hr (fun h H locs hr hH hS => ?_)
  refine mz_aload_n X dX12_makeTable_10 rfl (mz_at hl 0 rfl) ?_
  refine lv_bipush (v := (-9)) X.1 X.2.1 dX12_makeTable_11 (by decide) ?_
  refine mz_put X hH hS fp_RX12_172 dX12_makeTable_13 rfl rfl hr (fun h H locs hr hH hS => ?_)
  refine mz_aload_n X dX12_makeTable_16 rfl (mz_at hl 0 rfl) ?_
  refine lv_bipush (v := (-9)) X.1 X.2.1 dX12_makeTable_17 (by decide) ?_
  refine mz_put X hH hS fp_RX12_175 dX12_makeTable_19 rfl rfl hr (fun h H locs hr hH hS => ?_)
  refine mz_aload_n X dX12_makeTable_22 rfl (mz_at hl 0 rfl) ?_
  refine lv_bipush (v := (-9)) X.1 X.2.1 dX12_makeTable_23 (by decide) ?_
  refine mz_put X hH hS fp_RX12_178 dX12_makeTable_25 rfl rfl hr (fun h H locs hr hH hS => ?_)
  refine mz_aload_n X dX12_makeTable_28 rfl (mz_at hl 0 rfl) ?_
  refine lv_iconst (v := 0) X.1 X.2.1 dX12_makeTable_29 (by decide) ?_
  refine mz_put X hH hS fp_RX12_181 dX12_makeTable_30 rfl rfl hr (fun h H locs hr hH hS => ?_)
  refine mz_aload_n X dX12_makeTable_33 rfl (mz_at hl 0 rfl) ?_
  refine mz_kV Value.int X hH hS hl.1.1 [] [] hr (ct_X12_hasStaticKey l g h a0) mb_RX12_192 rfl im_X12_hasStaticKey rfl (Nat.le_of_ble_eq_true rfl) ⟨Nat.le_of_ble_eq_true rfl, Nat.le_of_ble_eq_true rfl⟩ hc hs dX12_makeTable_34 rfl (fun v1 h H locs cells slots dc ds hr hH hS hc hs => ?_)
  refine mz_if_eq X 41 dX12_makeTable_37 (by decide) hr (fun hr => ?_) (fun hr => ?_)
  · refine lv_iconst (v := 1) X.1 X.2.1 dX12_makeTable_41 (by decide) ?_
    refine mz_istore_n X [(2, false, .int 1), (0, false, va_rf a0), (1, false, .int x1)] dX12_makeTable_42 rfl hl (by decide) rfl (fun ls hl => ?_)
    refine lv_iconst (v := 0) X.1 X.2.1 dX12_makeTable_43 (by decide) ?_
    refine mz_istore_n X [(3, false, .int 0), (2, false, .int 1), (0, false, va_rf a0), (1, false, .int x1)] dX12_makeTable_44 rfl hl (by decide) rfl (fun ls hl => ?_)
    exact pf_X12_makeTable_b45 r Y 1001 h a0 1 0 _ _ hr H locs cells slots ls hH hS (mz_sub hl [2, 1, 0] rfl) hc hs
  · exact mz_vret Y dX12_makeTable_40 hH hS hc hs hr
set_option maxRecDepth 100000 in
theorem ct_X12_makeTable (l : Launch) (g : mz_G) (h : mz_H) (a0 : (Option Nat)) (x1 : Int32) (r : Unit) (hf : mz_H) (k n : Nat) (hr : fn_X12_makeTable h a0 x1 = some (r, hf, k, n)) : mz_C l g yX12_makeTable cX12_makeTable 5 none 2 51 [va_rf a0, .int x1] h none hf k n := by
  refine mz_met (as := [(false, va_rf a0), (false, .int x1)]) (plainFor_of_name (by decide)) (mz_c1 (mz_cat_rf _) (mz_c1 rfl mz_c0)) (Nat.le_of_ble_eq_true rfl) ?_
  intro p e s m args below meth c Y
  exact pf_X12_makeTable_b0 r Y h a0 x1 _ _ hr
theorem dX12_scan_0 : decode cX12_scan 0 = .ok (.aload_n 0, 1) := by decide +kernel
theorem dX12_scan_1 : decode cX12_scan 1 = .ok (.iload_n 1, 1) := by decide +kernel
theorem dX12_scan_2 : decode cX12_scan 2 = .ok (.invokevirtual 138, 3) := by decide +kernel
theorem dX12_scan_5 : decode cX12_scan 5 = .ok (.ifCond .ne 5, 3) := by decide +kernel
theorem dX12_scan_8 : decode cX12_scan 8 = .ok (.iconst (-1), 1) := by decide +kernel
theorem dX12_scan_9 : decode cX12_scan 9 = .ok (.ireturn, 1) := by decide +kernel
theorem dX12_scan_10 : decode cX12_scan 10 = .ok (.aload_n 0, 1) := by decide +kernel
theorem dX12_scan_11 : decode cX12_scan 11 = .ok (.iload_n 1, 1) := by decide +kernel
theorem dX12_scan_12 : decode cX12_scan 12 = .ok (.invokevirtual 199, 3) := by decide +kernel
theorem dX12_scan_15 : decode cX12_scan 15 = .ok (.aload_n 0, 1) := by decide +kernel
theorem dX12_scan_16 : decode cX12_scan 16 = .ok (.aload_n 0, 1) := by decide +kernel
theorem dX12_scan_17 : decode cX12_scan 17 = .ok (.getfield 169, 3) := by decide +kernel
theorem dX12_scan_20 : decode cX12_scan 20 = .ok (.putfield 202, 3) := by decide +kernel
theorem dX12_scan_23 : decode cX12_scan 23 = .ok (.aload_n 0, 1) := by decide +kernel
theorem dX12_scan_24 : decode cX12_scan 24 = .ok (.aload_n 0, 1) := by decide +kernel
theorem dX12_scan_25 : decode cX12_scan 25 = .ok (.getfield 172, 3) := by decide +kernel
theorem dX12_scan_28 : decode cX12_scan 28 = .ok (.putfield 62, 3) := by decide +kernel
theorem dX12_scan_31 : decode cX12_scan 31 = .ok (.aload_n 0, 1) := by decide +kernel
theorem dX12_scan_32 : decode cX12_scan 32 = .ok (.aload_n 0, 1) := by decide +kernel
theorem dX12_scan_33 : decode cX12_scan 33 = .ok (.getfield 175, 3) := by decide +kernel
theorem dX12_scan_36 : decode cX12_scan 36 = .ok (.putfield 66, 3) := by decide +kernel
theorem dX12_scan_39 : decode cX12_scan 39 = .ok (.aload_n 0, 1) := by decide +kernel
theorem dX12_scan_40 : decode cX12_scan 40 = .ok (.aload_n 0, 1) := by decide +kernel
theorem dX12_scan_41 : decode cX12_scan 41 = .ok (.getfield 178, 3) := by decide +kernel
theorem dX12_scan_44 : decode cX12_scan 44 = .ok (.putfield 69, 3) := by decide +kernel
theorem dX12_scan_47 : decode cX12_scan 47 = .ok (.aload_n 0, 1) := by decide +kernel
theorem dX12_scan_48 : decode cX12_scan 48 = .ok (.aload_n 0, 1) := by decide +kernel
theorem dX12_scan_49 : decode cX12_scan 49 = .ok (.getfield 181, 3) := by decide +kernel
theorem dX12_scan_52 : decode cX12_scan 52 = .ok (.putfield 205, 3) := by decide +kernel
theorem dX12_scan_55 : decode cX12_scan 55 = .ok (.iconst 0, 1) := by decide +kernel
theorem dX12_scan_56 : decode cX12_scan 56 = .ok (.istore_n 2, 1) := by decide +kernel
theorem dX12_scan_57 : decode cX12_scan 57 = .ok (.iload_n 2, 1) := by decide +kernel
theorem dX12_scan_58 : decode cX12_scan 58 = .ok (.bipush 7, 2) := by decide +kernel
theorem dX12_scan_60 : decode cX12_scan 60 = .ok (.aload_n 0, 1) := by decide +kernel
theorem dX12_scan_61 : decode cX12_scan 61 = .ok (.getfield 181, 3) := by decide +kernel
theorem dX12_scan_64 : decode cX12_scan 64 = .ok (.imul, 1) := by decide +kernel
theorem dX12_scan_65 : decode cX12_scan 65 = .ok (.if_icmp .ge 21, 3) := by decide +kernel
theorem dX12_scan_68 : decode cX12_scan 68 = .ok (.aload_n 0, 1) := by decide +kernel
theorem dX12_scan_69 : decode cX12_scan 69 = .ok (.getfield 72, 3) := by decide +kernel
theorem dX12_scan_72 : decode cX12_scan 72 = .ok (.iload_n 2, 1) := by decide +kernel
theorem dX12_scan_73 : decode cX12_scan 73 = .ok (.aload_n 0, 1) := by decide +kernel
theorem dX12_scan_74 : decode cX12_scan 74 = .ok (.getfield 59, 3) := by decide +kernel
theorem dX12_scan_77 : decode cX12_scan 77 = .ok (.iload_n 2, 1) := by decide +kernel
theorem dX12_scan_78 : decode cX12_scan 78 = .ok (.iaload, 1) := by decide +kernel
theorem dX12_scan_79 : decode cX12_scan 79 = .ok (.iastore, 1) := by decide +kernel
theorem dX12_scan_80 : decode cX12_scan 80 = .ok (.iinc 2 1, 3) := by decide +kernel
theorem dX12_scan_83 : decode cX12_scan 83 = .ok (.goto (-26), 3) := by decide +kernel
theorem dX12_scan_86 : decode cX12_scan 86 = .ok (.aload_n 0, 1) := by decide +kernel
theorem dX12_scan_87 : decode cX12_scan 87 = .ok (.getfield 169, 3) := by decide +kernel
theorem dX12_scan_90 : decode cX12_scan 90 = .ok (.ifCond .le 13, 3) := by decide +kernel
theorem dX12_scan_93 : decode cX12_scan 93 = .ok (.bipush (-20), 2) := by decide +kernel
theorem dX12_scan_95 : decode cX12_scan 95 = .ok (.aload_n 0, 1) := by decide +kernel
theorem dX12_scan_96 : decode cX12_scan 96 = .ok (.getfield 169, 3) := by decide +kernel
theorem dX12_scan_99 : decode cX12_scan 99 = .ok (.isub, 1) := by decide +kernel
theorem dX12_scan_100 : decode cX12_scan 100 = .ok (.goto 7, 3) := by decide +kernel
theorem dX12_scan_103 : decode cX12_scan 103 = .ok (.aload_n 0, 1) := by decide +kernel
theorem dX12_scan_104 : decode cX12_scan 104 = .ok (.getfield 181, 3) := by decide +kernel
theorem dX12_scan_107 : decode cX12_scan 107 = .ok (.ireturn, 1) := by decide +kernel
def fn_X12_scan_b57 : Nat → mz_H → (Option Nat) → Int32 → mz_Res Int32
  | 0, _, _, _ => none
  | n + 1, h, a0, x2 =>
    mz_op (mz_fI h a0 11 24) fun v1 =>
    if (7 * v1) ≤ x2 then
      mz_op (mz_fI h a0 11 20) fun v2 =>
      if v2 ≤ 0 then
        mz_op (mz_fI h a0 11 24) fun v3 =>
        mz_ret v3 h
      else
        mz_op (mz_fI h a0 11 20) fun v4 =>
        mz_ret ((-20) - v4) h
    else
      mz_op (mz_fR h a0 11 31) fun v5 =>
      mz_op (mz_fR h a0 11 25) fun v6 =>
      mz_op (mz_aI h v6 0 x2) fun v7 =>
      mz_op (mz_sI h v5 0 x2 v7) fun h =>
      mz_op (some (x2 + 1)) fun v8 =>
      fn_X12_scan_b57 n h a0 v8
set_option maxHeartbeats 4000000 in
set_option maxRecDepth 100000 in
theorem pf_X12_scan_b57 (r : Int32) (Y : mz_Y p g RX12 cX12_scan 3 (some .int) "scan" (mz_AF h0) s m args meth c) : ∀ (n : Nat) (h : mz_H) (a0 : (Option Nat)) (x2 : Int32) (dc ds : Nat), fn_X12_scan_b57 n h a0 x2 = some (r, hf, dc, ds) → mz_Go l g p e s m args below meth c 3 75 DC DS h0 (some (Value.int r)) hf 3 57 [(0, false, va_rf a0), (2, false, .int x2)] [] h dc ds := by
  have X := Y.1
  intro n
  induction n with
  | zero => intro h a0 x2 dc ds hr; simp [fn_X12_scan_b57] at hr
  | succ n ih =>
    intro h a0 x2 dc ds hr
    rw [fn_X12_scan_b57] at hr
    intro H locs cells slots ls hH hS hl hc hs
    refine lv_iload_n X.1 X.2.1 dX12_scan_57 rfl (mz_at hl 1 rfl) ?_
    refine lv_bipush (v := 7) X.1 X.2.1 dX12_scan_58 (by decide) ?_
    refine mz_aload_n X dX12_scan_60 rfl (mz_at hl 0 rfl) ?_
    refine mz_getI X hH fl_RX12_181 dX12_scan_61 hr (fun v1 hr => ?_)
    refine lv_imul X.1 X.2.1 dX12_scan_64 ?_
    refine mz_icmp_ge X 86 dX12_scan_65 (by decide) hr (fun hr => ?_) (fun hr => ?_)
    · refine mz_aload_n X dX12_scan_86 rfl (mz_at hl 0 rfl) ?_
      refine mz_getI X hH fl_RX12_169 dX12_scan_87 hr (fun v2 hr => ?_)
      refine mz_if_le X 103 dX12_scan_90 (by decide) hr (fun hr => ?_) (fun hr => ?_)
      · refine mz_aload_n X dX12_scan_103 rfl (mz_at hl 0 rfl) ?_
        refine mz_getI X hH fl_RX12_181 dX12_scan_104 hr (fun v3 hr => ?_)
        exact mz_iret Y dX12_scan_107 hH hS hc hs hr
      · refine lv_bipush (v := (-20)) X.1 X.2.1 dX12_scan_93 (by decide) ?_
        refine mz_aload_n X dX12_scan_95 rfl (mz_at hl 0 rfl) ?_
        refine mz_getI X hH fl_RX12_169 dX12_scan_96 hr (fun v4 hr => ?_)
        refine lv_isub X.1 X.2.1 dX12_scan_99 ?_
        refine lv_goto (tgt := 107) X.1 X.2.1 dX12_scan_100 (by decide) ?_
        exact mz_iret Y dX12_scan_107 hH hS hc hs hr
    · refine mz_aload_n X dX12_scan_68 rfl (mz_at hl 0 rfl) ?_
      refine mz_getR X hH fl_RX12_72 dX12_scan_69 hr (fun v5 hr => ?_)
      refine lv_iload_n X.1 X.2.1 dX12_scan_72 rfl (mz_at hl 1 rfl) ?_
      refine mz_aload_n X dX12_scan_73 rfl (mz_at hl 0 rfl) ?_
      refine mz_getR X hH fl_RX12_59 dX12_scan_74 hr (fun v6 hr => ?_)
      refine lv_iload_n X.1 X.2.1 dX12_scan_77 rfl (mz_at hl 1 rfl) ?_
      refine mz_iald X hH dX12_scan_78 hr (fun v7 hr => ?_)
      refine mz_iast X hH hS dX12_scan_79 hr (fun h H locs hr hH hS => ?_)
      obtain ⟨v8, hv8, hr⟩ := mz_op_some hr
      have hv8 := Option.some.inj hv8
      refine mz_iinc (k := 1) X [(2, false, .int v8), (0, false, va_rf a0)] v8 dX12_scan_80 hl rfl hv8 (by decide) rfl (fun ls hl => ?_)
      refine lv_goto (tgt := 57) X.1 X.2.1 dX12_scan_83 (by decide) ?_
      exact ih h a0 v8 _ _ hr H locs cells slots ls hH hS (mz_sub hl [1, 0] rfl) hc hs
def fn_X12_scan (h : mz_H) (a0 : (Option Nat)) (x1 : Int32) : mz_Res Int32 :=
  mz_chk (mz_is h a0 11) <| mz_call (fn_X12_isClass h a0 x1) fun v1 h =>
  if v1 = 0 then
    mz_ret (-1) h
  else
    mz_chk (mz_is h a0 11) <| mz_call (fn_X12_makeTable h a0 x1) fun _ h =>
    mz_op (mz_fI h a0 11 20) fun v2 =>
    mz_op (mz_pF h a0 11 26 (Value.int v2)) fun h =>
    mz_op (mz_fI h a0 11 21) fun v3 =>
    mz_op (mz_pF h a0 11 27 (Value.int v3)) fun h =>
    mz_op (mz_fI h a0 11 22) fun v4 =>
    mz_op (mz_pF h a0 11 28 (Value.int v4)) fun h =>
    mz_op (mz_fI h a0 11 23) fun v5 =>
    mz_op (mz_pF h a0 11 29 (Value.int v5)) fun h =>
    mz_op (mz_fI h a0 11 24) fun v6 =>
    mz_op (mz_pF h a0 11 30 (Value.int v6)) fun h =>
    fn_X12_scan_b57 1001 h a0 0
set_option maxHeartbeats 4000000 in
set_option maxRecDepth 100000 in
theorem pf_X12_scan_b0 (r : Int32) (Y : mz_Y p g RX12 cX12_scan 3 (some .int) "scan" (mz_AF h0) s m args meth c) (h : mz_H) (a0 : (Option Nat)) (x1 : Int32) (dc ds : Nat) (hr : fn_X12_scan h a0 x1 = some (r, hf, dc, ds)) : mz_Go l g p e s m args below meth c 3 75 DC DS h0 (some (Value.int r)) hf 3 0 [(0, false, va_rf a0), (1, false, .int x1)] [] h dc ds := by
  unfold fn_X12_scan at hr
  intro H locs cells slots ls hH hS hl hc hs
  have X := Y.1
  refine mz_aload_n X dX12_scan_0 rfl (mz_at hl 0 rfl) ?_
  refine lv_iload_n X.1 X.2.1 dX12_scan_1 rfl (mz_at hl 1 rfl) ?_
  refine mz_kV Value.int X hH hS hl.1.1 [.int x1] [] hr (ct_X12_isClass l g h a0 x1) mb_RX12_138 rfl im_X12_isClass rfl (Nat.le_of_ble_eq_true rfl) ⟨Nat.le_of_ble_eq_true rfl, Nat.le_of_ble_eq_true rfl⟩ hc hs dX12_scan_2 rfl (fun v1 h H locs cells slots dc ds hr hH hS hc hs => ?_)
  refine mz_if_ne X 10 dX12_scan_5 (by decide) hr (fun hr => ?_) (fun hr => ?_)
  · refine mz_aload_n X dX12_scan_10 rfl (mz_at hl 0 rfl) ?_
    refine lv_iload_n X.1 X.2.1 dX12_scan_11 rfl (mz_at hl 1 rfl) ?_
    refine mz_kV0 X hH hS hl.1.1 [.int x1] [] hr (ct_X12_makeTable l g h a0 x1) mb_RX12_199 rfl im_X12_makeTable rfl (Nat.le_of_ble_eq_true rfl) ⟨Nat.le_of_ble_eq_true rfl, Nat.le_of_ble_eq_true rfl⟩ hc hs dX12_scan_12 rfl (fun _ h H locs cells slots dc ds hr hH hS hc hs => ?_)
    refine mz_aload_n X dX12_scan_15 rfl (mz_at hl 0 rfl) ?_
    refine mz_aload_n X dX12_scan_16 rfl (mz_at hl 0 rfl) ?_
    refine mz_getI X hH fl_RX12_169 dX12_scan_17 hr (fun v2 hr => ?_)
    refine mz_put X hH hS fp_RX12_202 dX12_scan_20 rfl rfl hr (fun h H locs hr hH hS => ?_)
    refine mz_aload_n X dX12_scan_23 rfl (mz_at hl 0 rfl) ?_
    refine mz_aload_n X dX12_scan_24 rfl (mz_at hl 0 rfl) ?_
    refine mz_getI X hH fl_RX12_172 dX12_scan_25 hr (fun v3 hr => ?_)
    refine mz_put X hH hS fp_RX12_62 dX12_scan_28 rfl rfl hr (fun h H locs hr hH hS => ?_)
    refine mz_aload_n X dX12_scan_31 rfl (mz_at hl 0 rfl) ?_
    refine mz_aload_n X dX12_scan_32 rfl (mz_at hl 0 rfl) ?_
    refine mz_getI X hH fl_RX12_175 dX12_scan_33 hr (fun v4 hr => ?_)
    refine mz_put X hH hS fp_RX12_66 dX12_scan_36 rfl rfl hr (fun h H locs hr hH hS => ?_)
    refine mz_aload_n X dX12_scan_39 rfl (mz_at hl 0 rfl) ?_
    refine mz_aload_n X dX12_scan_40 rfl (mz_at hl 0 rfl) ?_
    refine mz_getI X hH fl_RX12_178 dX12_scan_41 hr (fun v5 hr => ?_)
    refine mz_put X hH hS fp_RX12_69 dX12_scan_44 rfl rfl hr (fun h H locs hr hH hS => ?_)
    refine mz_aload_n X dX12_scan_47 rfl (mz_at hl 0 rfl) ?_
    refine mz_aload_n X dX12_scan_48 rfl (mz_at hl 0 rfl) ?_
    refine mz_getI X hH fl_RX12_181 dX12_scan_49 hr (fun v6 hr => ?_)
    refine mz_put X hH hS fp_RX12_205 dX12_scan_52 rfl rfl hr (fun h H locs hr hH hS => ?_)
    refine lv_iconst (v := 0) X.1 X.2.1 dX12_scan_55 (by decide) ?_
    refine mz_istore_n X [(2, false, .int 0), (0, false, va_rf a0), (1, false, .int x1)] dX12_scan_56 rfl hl (by decide) rfl (fun ls hl => ?_)
    exact pf_X12_scan_b57 r Y 1001 h a0 0 _ _ hr H locs cells slots ls hH hS (mz_sub hl [1, 0] rfl) hc hs
  · refine lv_iconst (v := (-1)) X.1 X.2.1 dX12_scan_8 (by decide) ?_
    exact mz_iret Y dX12_scan_9 hH hS hc hs hr
set_option maxRecDepth 100000 in
theorem ct_X12_scan (l : Launch) (g : mz_G) (h : mz_H) (a0 : (Option Nat)) (x1 : Int32) (r : Int32) (hf : mz_H) (k n : Nat) (hr : fn_X12_scan h a0 x1 = some (r, hf, k, n)) : mz_C l g yX12_scan cX12_scan 3 (some .int) 3 75 [va_rf a0, .int x1] h (some (Value.int r)) hf k n := by
  refine mz_met (as := [(false, va_rf a0), (false, .int x1)]) (plainFor_of_name (by decide)) (mz_c1 (mz_cat_rf _) (mz_c1 rfl mz_c0)) (Nat.le_of_ble_eq_true rfl) ?_
  intro p e s m args below meth c Y
  exact pf_X12_scan_b0 r Y h a0 x1 _ _ hr
theorem dX12_broken_0 : decode cX12_broken 0 = .ok (.iload_n 1, 1) := by decide +kernel
theorem dX12_broken_1 : decode cX12_broken 1 = .ok (.tableswitch 51 0 3 #[31, 36, 41, 46], 31) := by decide +kernel
theorem dX12_broken_32 : decode cX12_broken 32 = .ok (.aload_n 0, 1) := by decide +kernel
theorem dX12_broken_33 : decode cX12_broken 33 = .ok (.getfield 202, 3) := by decide +kernel
theorem dX12_broken_36 : decode cX12_broken 36 = .ok (.ireturn, 1) := by decide +kernel
theorem dX12_broken_37 : decode cX12_broken 37 = .ok (.aload_n 0, 1) := by decide +kernel
theorem dX12_broken_38 : decode cX12_broken 38 = .ok (.getfield 62, 3) := by decide +kernel
theorem dX12_broken_41 : decode cX12_broken 41 = .ok (.ireturn, 1) := by decide +kernel
theorem dX12_broken_42 : decode cX12_broken 42 = .ok (.aload_n 0, 1) := by decide +kernel
theorem dX12_broken_43 : decode cX12_broken 43 = .ok (.getfield 66, 3) := by decide +kernel
theorem dX12_broken_46 : decode cX12_broken 46 = .ok (.ireturn, 1) := by decide +kernel
theorem dX12_broken_47 : decode cX12_broken 47 = .ok (.aload_n 0, 1) := by decide +kernel
theorem dX12_broken_48 : decode cX12_broken 48 = .ok (.getfield 69, 3) := by decide +kernel
theorem dX12_broken_51 : decode cX12_broken 51 = .ok (.ireturn, 1) := by decide +kernel
theorem dX12_broken_52 : decode cX12_broken 52 = .ok (.bipush (-2), 2) := by decide +kernel
theorem dX12_broken_54 : decode cX12_broken 54 = .ok (.ireturn, 1) := by decide +kernel
def fn_X12_broken (h : mz_H) (a0 : (Option Nat)) (x1 : Int32) : mz_Res Int32 :=
  if x1 = 0 then
    mz_op (mz_fI h a0 11 26) fun v1 =>
    mz_ret v1 h
  else
  if x1 = 1 then
    mz_op (mz_fI h a0 11 27) fun v2 =>
    mz_ret v2 h
  else
  if x1 = 2 then
    mz_op (mz_fI h a0 11 28) fun v3 =>
    mz_ret v3 h
  else
  if x1 = 3 then
    mz_op (mz_fI h a0 11 29) fun v4 =>
    mz_ret v4 h
  else
  mz_ret (-2) h
set_option maxHeartbeats 4000000 in
set_option maxRecDepth 100000 in
theorem pf_X12_broken_b0 (r : Int32) (Y : mz_Y p g RX12 cX12_broken 2 (some .int) "broken" (mz_AF h0) s m args meth c) (h : mz_H) (a0 : (Option Nat)) (x1 : Int32) (dc ds : Nat) (hr : fn_X12_broken h a0 x1 = some (r, hf, dc, ds)) : mz_Go l g p e s m args below meth c 0 0 DC DS h0 (some (Value.int r)) hf 2 0 [(0, false, va_rf a0), (1, false, .int x1)] [] h dc ds := by
  unfold fn_X12_broken at hr
  intro H locs cells slots ls hH hS hl hc hs
  have X := Y.1
  refine lv_iload_n X.1 X.2.1 dX12_broken_0 rfl (mz_at hl 1 rfl) ?_
  by_cases q0 : x1 = 0
  · rw [if_pos q0] at hr
    refine mz_tin X dX12_broken_1 q0 32 (by decide) (by decide) rfl (by decide) ?_
    refine mz_aload_n X dX12_broken_32 rfl (mz_at hl 0 rfl) ?_
    refine mz_getI X hH fl_RX12_202 dX12_broken_33 hr (fun v1 hr => ?_)
    exact mz_iret Y dX12_broken_36 hH hS hc hs hr
  rw [if_neg q0] at hr
  by_cases q1 : x1 = 1
  · rw [if_pos q1] at hr
    refine mz_tin X dX12_broken_1 q1 37 (by decide) (by decide) rfl (by decide) ?_
    refine mz_aload_n X dX12_broken_37 rfl (mz_at hl 0 rfl) ?_
    refine mz_getI X hH fl_RX12_62 dX12_broken_38 hr (fun v2 hr => ?_)
    exact mz_iret Y dX12_broken_41 hH hS hc hs hr
  rw [if_neg q1] at hr
  by_cases q2 : x1 = 2
  · rw [if_pos q2] at hr
    refine mz_tin X dX12_broken_1 q2 42 (by decide) (by decide) rfl (by decide) ?_
    refine mz_aload_n X dX12_broken_42 rfl (mz_at hl 0 rfl) ?_
    refine mz_getI X hH fl_RX12_66 dX12_broken_43 hr (fun v3 hr => ?_)
    exact mz_iret Y dX12_broken_46 hH hS hc hs hr
  rw [if_neg q2] at hr
  by_cases q3 : x1 = 3
  · rw [if_pos q3] at hr
    refine mz_tin X dX12_broken_1 q3 47 (by decide) (by decide) rfl (by decide) ?_
    refine mz_aload_n X dX12_broken_47 rfl (mz_at hl 0 rfl) ?_
    refine mz_getI X hH fl_RX12_69 dX12_broken_48 hr (fun v4 hr => ?_)
    exact mz_iret Y dX12_broken_51 hH hS hc hs hr
  rw [if_neg q3] at hr
  have kd : W p l e ({ frames := 0, cells := DC, slots := DS, locals := 0 }) s m args below meth c H locs cells slots (MQ below (mz_Q g h0 (some (Value.int r)) hf) args s DC DS (mz_AF h0)) (F0 m 52 ls []) := by
    refine lv_bipush (v := (-2)) X.1 X.2.1 dX12_broken_52 (by decide) ?_
    exact mz_iret Y dX12_broken_54 hH hS hc hs hr
  have t0 : ¬ (x1 : Int32).toInt = 0 := fun z => q0 (mz_ti 0 (by decide) z)
  have t1 : ¬ (x1 : Int32).toInt = 1 := fun z => q1 (mz_ti 1 (by decide) z)
  have t2 : ¬ (x1 : Int32).toInt = 2 := fun z => q2 (mz_ti 2 (by decide) z)
  have t3 : ¬ (x1 : Int32).toInt = 3 := fun z => q3 (mz_ti 3 (by decide) z)
  exact mz_tout X dX12_broken_1 52 (by omega) (by decide) kd
set_option maxRecDepth 100000 in
theorem ct_X12_broken (l : Launch) (g : mz_G) (h : mz_H) (a0 : (Option Nat)) (x1 : Int32) (r : Int32) (hf : mz_H) (k n : Nat) (hr : fn_X12_broken h a0 x1 = some (r, hf, k, n)) : mz_C l g yX12_broken cX12_broken 2 (some .int) 0 0 [va_rf a0, .int x1] h (some (Value.int r)) hf k n := by
  refine mz_met (as := [(false, va_rf a0), (false, .int x1)]) (plainFor_of_name (by decide)) (mz_c1 (mz_cat_rf _) (mz_c1 rfl mz_c0)) (Nat.le_of_ble_eq_true rfl) ?_
  intro p e s m args below meth c Y
  exact pf_X12_broken_b0 r Y h a0 x1 _ _ hr
theorem dX12_entry_0 : decode cX12_entry 0 = .ok (.iload_n 1, 1) := by decide +kernel
theorem dX12_entry_1 : decode cX12_entry 1 = .ok (.ifCond .lt 11, 3) := by decide +kernel
theorem dX12_entry_4 : decode cX12_entry 4 = .ok (.iload_n 1, 1) := by decide +kernel
theorem dX12_entry_5 : decode cX12_entry 5 = .ok (.aload_n 0, 1) := by decide +kernel
theorem dX12_entry_6 : decode cX12_entry 6 = .ok (.getfield 205, 3) := by decide +kernel
theorem dX12_entry_9 : decode cX12_entry 9 = .ok (.if_icmp .lt 5, 3) := by decide +kernel
theorem dX12_entry_12 : decode cX12_entry 12 = .ok (.iconst (-1), 1) := by decide +kernel
theorem dX12_entry_13 : decode cX12_entry 13 = .ok (.ireturn, 1) := by decide +kernel
theorem dX12_entry_14 : decode cX12_entry 14 = .ok (.iload_n 2, 1) := by decide +kernel
theorem dX12_entry_15 : decode cX12_entry 15 = .ok (.iconst 0, 1) := by decide +kernel
theorem dX12_entry_16 : decode cX12_entry 16 = .ok (.bipush 6, 2) := by decide +kernel
theorem dX12_entry_18 : decode cX12_entry 18 = .ok (.invokestatic 142, 3) := by decide +kernel
theorem dX12_entry_21 : decode cX12_entry 21 = .ok (.ifCond .eq 17, 3) := by decide +kernel
theorem dX12_entry_24 : decode cX12_entry 24 = .ok (.aload_n 0, 1) := by decide +kernel
theorem dX12_entry_25 : decode cX12_entry 25 = .ok (.getfield 72, 3) := by decide +kernel
theorem dX12_entry_28 : decode cX12_entry 28 = .ok (.bipush 7, 2) := by decide +kernel
theorem dX12_entry_30 : decode cX12_entry 30 = .ok (.iload_n 1, 1) := by decide +kernel
theorem dX12_entry_31 : decode cX12_entry 31 = .ok (.imul, 1) := by decide +kernel
theorem dX12_entry_32 : decode cX12_entry 32 = .ok (.iload_n 2, 1) := by decide +kernel
theorem dX12_entry_33 : decode cX12_entry 33 = .ok (.iadd, 1) := by decide +kernel
theorem dX12_entry_34 : decode cX12_entry 34 = .ok (.iaload, 1) := by decide +kernel
theorem dX12_entry_35 : decode cX12_entry 35 = .ok (.goto 5, 3) := by decide +kernel
theorem dX12_entry_38 : decode cX12_entry 38 = .ok (.bipush (-2), 2) := by decide +kernel
theorem dX12_entry_40 : decode cX12_entry 40 = .ok (.ireturn, 1) := by decide +kernel
def fn_X12_entry (h : mz_H) (a0 : (Option Nat)) (x1 : Int32) (x2 : Int32) : mz_Res Int32 :=
  if x1 < 0 then
    mz_ret (-1) h
  else
    mz_op (mz_fI h a0 11 30) fun v1 =>
    if x1 < v1 then
      mz_call (fn_X12_within h x2 0 6) fun v2 h =>
      if v2 = 0 then
        mz_ret (-2) h
      else
        mz_op (mz_fR h a0 11 31) fun v3 =>
        mz_op (mz_aI h v3 0 ((7 * x1) + x2)) fun v4 =>
        mz_ret v4 h
    else
      mz_ret (-1) h
set_option maxHeartbeats 4000000 in
set_option maxRecDepth 100000 in
theorem pf_X12_entry_b0 (r : Int32) (Y : mz_Y p g RX12 cX12_entry 3 (some .int) "entry" (mz_AF h0) s m args meth c) (h : mz_H) (a0 : (Option Nat)) (x1 : Int32) (x2 : Int32) (dc ds : Nat) (hr : fn_X12_entry h a0 x1 x2 = some (r, hf, dc, ds)) : mz_Go l g p e s m args below meth c 1 22 DC DS h0 (some (Value.int r)) hf 3 0 [(0, false, va_rf a0), (1, false, .int x1), (2, false, .int x2)] [] h dc ds := by
  unfold fn_X12_entry at hr
  intro H locs cells slots ls hH hS hl hc hs
  have X := Y.1
  refine lv_iload_n X.1 X.2.1 dX12_entry_0 rfl (mz_at hl 1 rfl) ?_
  refine mz_if_lt X 12 dX12_entry_1 (by decide) hr (fun hr => ?_) (fun hr => ?_)
  · refine lv_iconst (v := (-1)) X.1 X.2.1 dX12_entry_12 (by decide) ?_
    exact mz_iret Y dX12_entry_13 hH hS hc hs hr
  · refine lv_iload_n X.1 X.2.1 dX12_entry_4 rfl (mz_at hl 1 rfl) ?_
    refine mz_aload_n X dX12_entry_5 rfl (mz_at hl 0 rfl) ?_
    refine mz_getI X hH fl_RX12_205 dX12_entry_6 hr (fun v1 hr => ?_)
    refine mz_icmp_lt X 14 dX12_entry_9 (by decide) hr (fun hr => ?_) (fun hr => ?_)
    · refine lv_iload_n X.1 X.2.1 dX12_entry_14 rfl (mz_at hl 2 rfl) ?_
      refine lv_iconst (v := 0) X.1 X.2.1 dX12_entry_15 (by decide) ?_
      refine lv_bipush (v := 6) X.1 X.2.1 dX12_entry_16 (by decide) ?_
      refine mz_kS Value.int X hH hS hl.1.1 [.int x2, .int 0, .int 6] [] hr (ct_X12_within l g h x2 0 6) mb_RX12_142 im_X12_within rfl (Nat.le_of_ble_eq_true rfl) ⟨Nat.le_of_ble_eq_true rfl, Nat.le_of_ble_eq_true rfl⟩ hc hs dX12_entry_18 rfl (fun v2 h H locs cells slots dc ds hr hH hS hc hs => ?_)
      refine mz_if_eq X 38 dX12_entry_21 (by decide) hr (fun hr => ?_) (fun hr => ?_)
      · refine lv_bipush (v := (-2)) X.1 X.2.1 dX12_entry_38 (by decide) ?_
        exact mz_iret Y dX12_entry_40 hH hS hc hs hr
      · refine mz_aload_n X dX12_entry_24 rfl (mz_at hl 0 rfl) ?_
        refine mz_getR X hH fl_RX12_72 dX12_entry_25 hr (fun v3 hr => ?_)
        refine lv_bipush (v := 7) X.1 X.2.1 dX12_entry_28 (by decide) ?_
        refine lv_iload_n X.1 X.2.1 dX12_entry_30 rfl (mz_at hl 1 rfl) ?_
        refine lv_imul X.1 X.2.1 dX12_entry_31 ?_
        refine lv_iload_n X.1 X.2.1 dX12_entry_32 rfl (mz_at hl 2 rfl) ?_
        refine lv_iadd X.1 X.2.1 dX12_entry_33 ?_
        refine mz_iald X hH dX12_entry_34 hr (fun v4 hr => ?_)
        refine lv_goto (tgt := 40) X.1 X.2.1 dX12_entry_35 (by decide) ?_
        exact mz_iret Y dX12_entry_40 hH hS hc hs hr
    · refine lv_iconst (v := (-1)) X.1 X.2.1 dX12_entry_12 (by decide) ?_
      exact mz_iret Y dX12_entry_13 hH hS hc hs hr
set_option maxRecDepth 100000 in
theorem ct_X12_entry (l : Launch) (g : mz_G) (h : mz_H) (a0 : (Option Nat)) (x1 : Int32) (x2 : Int32) (r : Int32) (hf : mz_H) (k n : Nat) (hr : fn_X12_entry h a0 x1 x2 = some (r, hf, k, n)) : mz_C l g yX12_entry cX12_entry 3 (some .int) 1 22 [va_rf a0, .int x1, .int x2] h (some (Value.int r)) hf k n := by
  refine mz_met (as := [(false, va_rf a0), (false, .int x1), (false, .int x2)]) (plainFor_of_name (by decide)) (mz_c1 (mz_cat_rf _) (mz_c1 rfl (mz_c1 rfl mz_c0))) (Nat.le_of_ble_eq_true rfl) ?_
  intro p e s m args below meth c Y
  exact pf_X12_entry_b0 r Y h a0 x1 x2 _ _ hr
theorem dX12_isConcrete_0 : decode cX12_isConcrete 0 = .ok (.aload_n 0, 1) := by decide +kernel
theorem dX12_isConcrete_1 : decode cX12_isConcrete 1 = .ok (.getfield 7, 3) := by decide +kernel
theorem dX12_isConcrete_4 : decode cX12_isConcrete 4 = .ok (.iload_n 1, 1) := by decide +kernel
theorem dX12_isConcrete_5 : decode cX12_isConcrete 5 = .ok (.iaload, 1) := by decide +kernel
theorem dX12_isConcrete_6 : decode cX12_isConcrete 6 = .ok (.ifCond .eq 13, 3) := by decide +kernel
theorem dX12_isConcrete_9 : decode cX12_isConcrete 9 = .ok (.aload_n 0, 1) := by decide +kernel
theorem dX12_isConcrete_10 : decode cX12_isConcrete 10 = .ok (.getfield 7, 3) := by decide +kernel
theorem dX12_isConcrete_13 : decode cX12_isConcrete 13 = .ok (.iload_n 1, 1) := by decide +kernel
theorem dX12_isConcrete_14 : decode cX12_isConcrete 14 = .ok (.iaload, 1) := by decide +kernel
theorem dX12_isConcrete_15 : decode cX12_isConcrete 15 = .ok (.iconst 3, 1) := by decide +kernel
theorem dX12_isConcrete_16 : decode cX12_isConcrete 16 = .ok (.if_icmp .ne 7, 3) := by decide +kernel
theorem dX12_isConcrete_19 : decode cX12_isConcrete 19 = .ok (.iconst 1, 1) := by decide +kernel
theorem dX12_isConcrete_20 : decode cX12_isConcrete 20 = .ok (.goto 4, 3) := by decide +kernel
theorem dX12_isConcrete_23 : decode cX12_isConcrete 23 = .ok (.iconst 0, 1) := by decide +kernel
theorem dX12_isConcrete_24 : decode cX12_isConcrete 24 = .ok (.ireturn, 1) := by decide +kernel
def fn_X12_isConcrete_b19 (h : mz_H) : mz_Res Int32 :=
  mz_chk ((1 : Int32) &&& 1 == 1) (mz_ret 1 h)
set_option maxHeartbeats 4000000 in
set_option maxRecDepth 100000 in
theorem pf_X12_isConcrete_b19 (r : Int32) (Y : mz_Y p g RX12 cX12_isConcrete 2 (some .boolean) "isConcrete" (mz_AF h0) s m args meth c) (h : mz_H) (dc ds : Nat) (hr : fn_X12_isConcrete_b19 h = some (r, hf, dc, ds)) : mz_Go l g p e s m args below meth c 0 0 DC DS h0 (some (Value.int r)) hf 2 19 [] [] h dc ds := by
  unfold fn_X12_isConcrete_b19 at hr
  intro H locs cells slots ls hH hS hl hc hs
  have X := Y.1
  refine lv_iconst (v := 1) X.1 X.2.1 dX12_isConcrete_19 (by decide) ?_
  refine lv_goto (tgt := 24) X.1 X.2.1 dX12_isConcrete_20 (by decide) ?_
  exact mz_zret Y dX12_isConcrete_24 hH hS hc hs hr
def fn_X12_isConcrete (h : mz_H) (a0 : (Option Nat)) (x1 : Int32) : mz_Res Int32 :=
  mz_op (mz_fR h a0 11 3) fun v1 =>
  mz_op (mz_aI h v1 0 x1) fun v2 =>
  if v2 = 0 then
    fn_X12_isConcrete_b19 h
  else
    mz_op (mz_fR h a0 11 3) fun v3 =>
    mz_op (mz_aI h v3 0 x1) fun v4 =>
    if v4 = 3 then
      fn_X12_isConcrete_b19 h
    else
      mz_chk ((0 : Int32) &&& 1 == 0) (mz_ret 0 h)
set_option maxHeartbeats 4000000 in
set_option maxRecDepth 100000 in
theorem pf_X12_isConcrete_b0 (r : Int32) (Y : mz_Y p g RX12 cX12_isConcrete 2 (some .boolean) "isConcrete" (mz_AF h0) s m args meth c) (h : mz_H) (a0 : (Option Nat)) (x1 : Int32) (dc ds : Nat) (hr : fn_X12_isConcrete h a0 x1 = some (r, hf, dc, ds)) : mz_Go l g p e s m args below meth c 0 0 DC DS h0 (some (Value.int r)) hf 2 0 [(0, false, va_rf a0), (1, false, .int x1)] [] h dc ds := by
  unfold fn_X12_isConcrete at hr
  intro H locs cells slots ls hH hS hl hc hs
  have X := Y.1
  refine mz_aload_n X dX12_isConcrete_0 rfl (mz_at hl 0 rfl) ?_
  refine mz_getR X hH fl_RX12_7 dX12_isConcrete_1 hr (fun v1 hr => ?_)
  refine lv_iload_n X.1 X.2.1 dX12_isConcrete_4 rfl (mz_at hl 1 rfl) ?_
  refine mz_iald X hH dX12_isConcrete_5 hr (fun v2 hr => ?_)
  refine mz_if_eq X 19 dX12_isConcrete_6 (by decide) hr (fun hr => ?_) (fun hr => ?_)
  · exact pf_X12_isConcrete_b19 r Y h  _ _ hr H locs cells slots ls hH hS (mz_sub hl [] rfl) hc hs
  · refine mz_aload_n X dX12_isConcrete_9 rfl (mz_at hl 0 rfl) ?_
    refine mz_getR X hH fl_RX12_7 dX12_isConcrete_10 hr (fun v3 hr => ?_)
    refine lv_iload_n X.1 X.2.1 dX12_isConcrete_13 rfl (mz_at hl 1 rfl) ?_
    refine mz_iald X hH dX12_isConcrete_14 hr (fun v4 hr => ?_)
    refine lv_iconst (v := 3) X.1 X.2.1 dX12_isConcrete_15 (by decide) ?_
    refine mz_icmp_ne X 23 dX12_isConcrete_16 (by decide) hr (fun hr => ?_) (fun hr => ?_)
    · refine lv_iconst (v := 0) X.1 X.2.1 dX12_isConcrete_23 (by decide) ?_
      exact mz_zret Y dX12_isConcrete_24 hH hS hc hs hr
    · exact pf_X12_isConcrete_b19 r Y h  _ _ hr H locs cells slots ls hH hS (mz_sub hl [] rfl) hc hs
set_option maxRecDepth 100000 in
theorem ct_X12_isConcrete (l : Launch) (g : mz_G) (h : mz_H) (a0 : (Option Nat)) (x1 : Int32) (r : Int32) (hf : mz_H) (k n : Nat) (hr : fn_X12_isConcrete h a0 x1 = some (r, hf, k, n)) : mz_C l g yX12_isConcrete cX12_isConcrete 2 (some .boolean) 0 0 [va_rf a0, .int x1] h (some (Value.int r)) hf k n := by
  refine mz_met (as := [(false, va_rf a0), (false, .int x1)]) (plainFor_of_name (by decide)) (mz_c1 (mz_cat_rf _) (mz_c1 rfl mz_c0)) (Nat.le_of_ble_eq_true rfl) ?_
  intro p e s m args below meth c Y
  exact pf_X12_isConcrete_b0 r Y h a0 x1 _ _ hr
theorem dX12_tally_0 : decode cX12_tally 0 = .ok (.aload_n 0, 1) := by decide +kernel
theorem dX12_tally_1 : decode cX12_tally 1 = .ok (.iconst 0, 1) := by decide +kernel
theorem dX12_tally_2 : decode cX12_tally 2 = .ok (.putfield 125, 3) := by decide +kernel
theorem dX12_tally_5 : decode cX12_tally 5 = .ok (.aload_n 0, 1) := by decide +kernel
theorem dX12_tally_6 : decode cX12_tally 6 = .ok (.iload_n 1, 1) := by decide +kernel
theorem dX12_tally_7 : decode cX12_tally 7 = .ok (.invokevirtual 138, 3) := by decide +kernel
theorem dX12_tally_10 : decode cX12_tally 10 = .ok (.ifCond .ne 5, 3) := by decide +kernel
theorem dX12_tally_13 : decode cX12_tally 13 = .ok (.iconst (-1), 1) := by decide +kernel
theorem dX12_tally_14 : decode cX12_tally 14 = .ok (.ireturn, 1) := by decide +kernel
theorem dX12_tally_15 : decode cX12_tally 15 = .ok (.iload_n 2, 1) := by decide +kernel
theorem dX12_tally_16 : decode cX12_tally 16 = .ok (.iconst 0, 1) := by decide +kernel
theorem dX12_tally_17 : decode cX12_tally 17 = .ok (.iconst 2, 1) := by decide +kernel
theorem dX12_tally_18 : decode cX12_tally 18 = .ok (.invokestatic 142, 3) := by decide +kernel
theorem dX12_tally_21 : decode cX12_tally 21 = .ok (.ifCond .ne 6, 3) := by decide +kernel
theorem dX12_tally_24 : decode cX12_tally 24 = .ok (.bipush (-2), 2) := by decide +kernel
theorem dX12_tally_26 : decode cX12_tally 26 = .ok (.ireturn, 1) := by decide +kernel
theorem dX12_tally_27 : decode cX12_tally 27 = .ok (.iload_n 2, 1) := by decide +kernel
theorem dX12_tally_28 : decode cX12_tally 28 = .ok (.iconst 1, 1) := by decide +kernel
theorem dX12_tally_29 : decode cX12_tally 29 = .ok (.if_icmp .ne 11, 3) := by decide +kernel
theorem dX12_tally_32 : decode cX12_tally 32 = .ok (.aload_n 0, 1) := by decide +kernel
theorem dX12_tally_33 : decode cX12_tally 33 = .ok (.iload_n 1, 1) := by decide +kernel
theorem dX12_tally_34 : decode cX12_tally 34 = .ok (.invokevirtual 208, 3) := by decide +kernel
theorem dX12_tally_37 : decode cX12_tally 37 = .ok (.ifCond .eq 18, 3) := by decide +kernel
theorem dX12_tally_40 : decode cX12_tally 40 = .ok (.iload_n 2, 1) := by decide +kernel
theorem dX12_tally_41 : decode cX12_tally 41 = .ok (.iconst 2, 1) := by decide +kernel
theorem dX12_tally_42 : decode cX12_tally 42 = .ok (.if_icmp .ne 19, 3) := by decide +kernel
theorem dX12_tally_45 : decode cX12_tally 45 = .ok (.aload_n 0, 1) := by decide +kernel
theorem dX12_tally_46 : decode cX12_tally 46 = .ok (.getfield 7, 3) := by decide +kernel
theorem dX12_tally_49 : decode cX12_tally 49 = .ok (.iload_n 1, 1) := by decide +kernel
theorem dX12_tally_50 : decode cX12_tally 50 = .ok (.iaload, 1) := by decide +kernel
theorem dX12_tally_51 : decode cX12_tally 51 = .ok (.iconst 3, 1) := by decide +kernel
theorem dX12_tally_52 : decode cX12_tally 52 = .ok (.if_icmp .eq 9, 3) := by decide +kernel
theorem dX12_tally_55 : decode cX12_tally 55 = .ok (.aload_n 0, 1) := by decide +kernel
theorem dX12_tally_56 : decode cX12_tally 56 = .ok (.iconst 2, 1) := by decide +kernel
theorem dX12_tally_57 : decode cX12_tally 57 = .ok (.invokevirtual 131, 3) := by decide +kernel
theorem dX12_tally_60 : decode cX12_tally 60 = .ok (.ireturn, 1) := by decide +kernel
theorem dX12_tally_61 : decode cX12_tally 61 = .ok (.aload_n 0, 1) := by decide +kernel
theorem dX12_tally_62 : decode cX12_tally 62 = .ok (.getfield 47, 3) := by decide +kernel
theorem dX12_tally_65 : decode cX12_tally 65 = .ok (.iconst 3, 1) := by decide +kernel
theorem dX12_tally_66 : decode cX12_tally 66 = .ok (.iload_n 1, 1) := by decide +kernel
theorem dX12_tally_67 : decode cX12_tally 67 = .ok (.imul, 1) := by decide +kernel
theorem dX12_tally_68 : decode cX12_tally 68 = .ok (.iload_n 2, 1) := by decide +kernel
theorem dX12_tally_69 : decode cX12_tally 69 = .ok (.iadd, 1) := by decide +kernel
theorem dX12_tally_70 : decode cX12_tally 70 = .ok (.dup2, 1) := by decide +kernel
theorem dX12_tally_71 : decode cX12_tally 71 = .ok (.iaload, 1) := by decide +kernel
theorem dX12_tally_72 : decode cX12_tally 72 = .ok (.iload_n 3, 1) := by decide +kernel
theorem dX12_tally_73 : decode cX12_tally 73 = .ok (.iadd, 1) := by decide +kernel
theorem dX12_tally_74 : decode cX12_tally 74 = .ok (.iastore, 1) := by decide +kernel
theorem dX12_tally_75 : decode cX12_tally 75 = .ok (.aload_n 0, 1) := by decide +kernel
theorem dX12_tally_76 : decode cX12_tally 76 = .ok (.getfield 47, 3) := by decide +kernel
theorem dX12_tally_79 : decode cX12_tally 79 = .ok (.iconst 3, 1) := by decide +kernel
theorem dX12_tally_80 : decode cX12_tally 80 = .ok (.iload_n 1, 1) := by decide +kernel
theorem dX12_tally_81 : decode cX12_tally 81 = .ok (.imul, 1) := by decide +kernel
theorem dX12_tally_82 : decode cX12_tally 82 = .ok (.iload_n 2, 1) := by decide +kernel
theorem dX12_tally_83 : decode cX12_tally 83 = .ok (.iadd, 1) := by decide +kernel
theorem dX12_tally_84 : decode cX12_tally 84 = .ok (.iaload, 1) := by decide +kernel
theorem dX12_tally_85 : decode cX12_tally 85 = .ok (.ireturn, 1) := by decide +kernel
def fn_X12_tally_b61 (h : mz_H) (a0 : (Option Nat)) (x1 : Int32) (x2 : Int32) (x3 : Int32) : mz_Res Int32 :=
  mz_op (mz_fR h a0 11 15) fun v1 =>
  mz_op (mz_aI h v1 0 ((3 * x1) + x2)) fun v2 =>
  mz_op (mz_sI h v1 0 ((3 * x1) + x2) (v2 + x3)) fun h =>
  mz_op (mz_fR h a0 11 15) fun v3 =>
  mz_op (mz_aI h v3 0 ((3 * x1) + x2)) fun v4 =>
  mz_ret v4 h
set_option maxHeartbeats 4000000 in
set_option maxRecDepth 100000 in
theorem pf_X12_tally_b61 (r : Int32) (Y : mz_Y p g RX12 cX12_tally 4 (some .int) "tally" (mz_AF h0) s m args meth c) (h : mz_H) (a0 : (Option Nat)) (x1 : Int32) (x2 : Int32) (x3 : Int32) (dc ds : Nat) (hr : fn_X12_tally_b61 h a0 x1 x2 x3 = some (r, hf, dc, ds)) : mz_Go l g p e s m args below meth c 1 22 DC DS h0 (some (Value.int r)) hf 4 61 [(0, false, va_rf a0), (1, false, .int x1), (2, false, .int x2), (3, false, .int x3)] [] h dc ds := by
  unfold fn_X12_tally_b61 at hr
  intro H locs cells slots ls hH hS hl hc hs
  have X := Y.1
  refine mz_aload_n X dX12_tally_61 rfl (mz_at hl 0 rfl) ?_
  refine mz_getR X hH fl_RX12_47 dX12_tally_62 hr (fun v1 hr => ?_)
  refine lv_iconst (v := 3) X.1 X.2.1 dX12_tally_65 (by decide) ?_
  refine lv_iload_n X.1 X.2.1 dX12_tally_66 rfl (mz_at hl 1 rfl) ?_
  refine lv_imul X.1 X.2.1 dX12_tally_67 ?_
  refine lv_iload_n X.1 X.2.1 dX12_tally_68 rfl (mz_at hl 2 rfl) ?_
  refine lv_iadd X.1 X.2.1 dX12_tally_69 ?_
  refine mz_dup2 X dX12_tally_70 ?_
  refine mz_iald X hH dX12_tally_71 hr (fun v2 hr => ?_)
  refine lv_iload_n X.1 X.2.1 dX12_tally_72 rfl (mz_at hl 3 rfl) ?_
  refine lv_iadd X.1 X.2.1 dX12_tally_73 ?_
  refine mz_iast X hH hS dX12_tally_74 hr (fun h H locs hr hH hS => ?_)
  refine mz_aload_n X dX12_tally_75 rfl (mz_at hl 0 rfl) ?_
  refine mz_getR X hH fl_RX12_47 dX12_tally_76 hr (fun v3 hr => ?_)
  refine lv_iconst (v := 3) X.1 X.2.1 dX12_tally_79 (by decide) ?_
  refine lv_iload_n X.1 X.2.1 dX12_tally_80 rfl (mz_at hl 1 rfl) ?_
  refine lv_imul X.1 X.2.1 dX12_tally_81 ?_
  refine lv_iload_n X.1 X.2.1 dX12_tally_82 rfl (mz_at hl 2 rfl) ?_
  refine lv_iadd X.1 X.2.1 dX12_tally_83 ?_
  refine mz_iald X hH dX12_tally_84 hr (fun v4 hr => ?_)
  exact mz_iret Y dX12_tally_85 hH hS hc hs hr
def fn_X12_tally_b55 (h : mz_H) (a0 : (Option Nat)) : mz_Res Int32 :=
  mz_chk (mz_is h a0 11) <| mz_call (fn_X12_fails h a0 2) fun v1 h =>
  mz_ret v1 h
set_option maxHeartbeats 4000000 in
set_option maxRecDepth 100000 in
theorem pf_X12_tally_b55 (r : Int32) (Y : mz_Y p g RX12 cX12_tally 4 (some .int) "tally" (mz_AF h0) s m args meth c) (h : mz_H) (a0 : (Option Nat)) (dc ds : Nat) (hr : fn_X12_tally_b55 h a0 = some (r, hf, dc, ds)) : mz_Go l g p e s m args below meth c 1 22 DC DS h0 (some (Value.int r)) hf 4 55 [(0, false, va_rf a0)] [] h dc ds := by
  unfold fn_X12_tally_b55 at hr
  intro H locs cells slots ls hH hS hl hc hs
  have X := Y.1
  refine mz_aload_n X dX12_tally_55 rfl (mz_at hl 0 rfl) ?_
  refine lv_iconst (v := 2) X.1 X.2.1 dX12_tally_56 (by decide) ?_
  refine mz_kV Value.int X hH hS hl.1.1 [.int 2] [] hr (ct_X12_fails l g h a0 2) mb_RX12_131 rfl im_X12_fails rfl (Nat.le_of_ble_eq_true rfl) ⟨Nat.le_of_ble_eq_true rfl, Nat.le_of_ble_eq_true rfl⟩ hc hs dX12_tally_57 rfl (fun v1 h H locs cells slots dc ds hr hH hS hc hs => ?_)
  exact mz_iret Y dX12_tally_60 hH hS hc hs hr
def fn_X12_tally_b40 (h : mz_H) (a0 : (Option Nat)) (x1 : Int32) (x2 : Int32) (x3 : Int32) : mz_Res Int32 :=
  if x2 = 2 then
    mz_op (mz_fR h a0 11 3) fun v1 =>
    mz_op (mz_aI h v1 0 x1) fun v2 =>
    if v2 = 3 then
      fn_X12_tally_b61 h a0 x1 x2 x3
    else
      fn_X12_tally_b55 h a0
  else
    fn_X12_tally_b61 h a0 x1 x2 x3
set_option maxHeartbeats 4000000 in
set_option maxRecDepth 100000 in
theorem pf_X12_tally_b40 (r : Int32) (Y : mz_Y p g RX12 cX12_tally 4 (some .int) "tally" (mz_AF h0) s m args meth c) (h : mz_H) (a0 : (Option Nat)) (x1 : Int32) (x2 : Int32) (x3 : Int32) (dc ds : Nat) (hr : fn_X12_tally_b40 h a0 x1 x2 x3 = some (r, hf, dc, ds)) : mz_Go l g p e s m args below meth c 1 22 DC DS h0 (some (Value.int r)) hf 4 40 [(0, false, va_rf a0), (1, false, .int x1), (2, false, .int x2), (3, false, .int x3)] [] h dc ds := by
  unfold fn_X12_tally_b40 at hr
  intro H locs cells slots ls hH hS hl hc hs
  have X := Y.1
  refine lv_iload_n X.1 X.2.1 dX12_tally_40 rfl (mz_at hl 2 rfl) ?_
  refine lv_iconst (v := 2) X.1 X.2.1 dX12_tally_41 (by decide) ?_
  refine mz_icmp_ne X 61 dX12_tally_42 (by decide) hr (fun hr => ?_) (fun hr => ?_)
  · exact pf_X12_tally_b61 r Y h a0 x1 x2 x3 _ _ hr H locs cells slots ls hH hS (mz_sub hl [0, 1, 2, 3] rfl) hc hs
  · refine mz_aload_n X dX12_tally_45 rfl (mz_at hl 0 rfl) ?_
    refine mz_getR X hH fl_RX12_7 dX12_tally_46 hr (fun v1 hr => ?_)
    refine lv_iload_n X.1 X.2.1 dX12_tally_49 rfl (mz_at hl 1 rfl) ?_
    refine mz_iald X hH dX12_tally_50 hr (fun v2 hr => ?_)
    refine lv_iconst (v := 3) X.1 X.2.1 dX12_tally_51 (by decide) ?_
    refine mz_icmp_eq X 61 dX12_tally_52 (by decide) hr (fun hr => ?_) (fun hr => ?_)
    · exact pf_X12_tally_b61 r Y h a0 x1 x2 x3 _ _ hr H locs cells slots ls hH hS (mz_sub hl [0, 1, 2, 3] rfl) hc hs
    · exact pf_X12_tally_b55 r Y h a0 _ _ hr H locs cells slots ls hH hS (mz_sub hl [0] rfl) hc hs
def fn_X12_tally (h : mz_H) (a0 : (Option Nat)) (x1 : Int32) (x2 : Int32) (x3 : Int32) : mz_Res Int32 :=
  mz_op (mz_pF h a0 11 0 (Value.int 0)) fun h =>
  mz_chk (mz_is h a0 11) <| mz_call (fn_X12_isClass h a0 x1) fun v1 h =>
  if v1 = 0 then
    mz_ret (-1) h
  else
    mz_call (fn_X12_within h x2 0 2) fun v2 h =>
    if v2 = 0 then
      mz_ret (-2) h
    else
      if x2 = 1 then
        mz_chk (mz_is h a0 11) <| mz_call (fn_X12_isConcrete h a0 x1) fun v3 h =>
        if v3 = 0 then
          fn_X12_tally_b55 h a0
        else
          fn_X12_tally_b40 h a0 x1 x2 x3
      else
        fn_X12_tally_b40 h a0 x1 x2 x3
set_option maxHeartbeats 4000000 in
set_option maxRecDepth 100000 in
theorem pf_X12_tally_b0 (r : Int32) (Y : mz_Y p g RX12 cX12_tally 4 (some .int) "tally" (mz_AF h0) s m args meth c) (h : mz_H) (a0 : (Option Nat)) (x1 : Int32) (x2 : Int32) (x3 : Int32) (dc ds : Nat) (hr : fn_X12_tally h a0 x1 x2 x3 = some (r, hf, dc, ds)) : mz_Go l g p e s m args below meth c 1 22 DC DS h0 (some (Value.int r)) hf 4 0 [(0, false, va_rf a0), (1, false, .int x1), (2, false, .int x2), (3, false, .int x3)] [] h dc ds := by
  unfold fn_X12_tally at hr
  intro H locs cells slots ls hH hS hl hc hs
  have X := Y.1
  refine mz_aload_n X dX12_tally_0 rfl (mz_at hl 0 rfl) ?_
  refine lv_iconst (v := 0) X.1 X.2.1 dX12_tally_1 (by decide) ?_
  refine mz_put X hH hS fp_RX12_125 dX12_tally_2 rfl rfl hr (fun h H locs hr hH hS => ?_)
  refine mz_aload_n X dX12_tally_5 rfl (mz_at hl 0 rfl) ?_
  refine lv_iload_n X.1 X.2.1 dX12_tally_6 rfl (mz_at hl 1 rfl) ?_
  refine mz_kV Value.int X hH hS hl.1.1 [.int x1] [] hr (ct_X12_isClass l g h a0 x1) mb_RX12_138 rfl im_X12_isClass rfl (Nat.le_of_ble_eq_true rfl) ⟨Nat.le_of_ble_eq_true rfl, Nat.le_of_ble_eq_true rfl⟩ hc hs dX12_tally_7 rfl (fun v1 h H locs cells slots dc ds hr hH hS hc hs => ?_)
  refine mz_if_ne X 15 dX12_tally_10 (by decide) hr (fun hr => ?_) (fun hr => ?_)
  · refine lv_iload_n X.1 X.2.1 dX12_tally_15 rfl (mz_at hl 2 rfl) ?_
    refine lv_iconst (v := 0) X.1 X.2.1 dX12_tally_16 (by decide) ?_
    refine lv_iconst (v := 2) X.1 X.2.1 dX12_tally_17 (by decide) ?_
    refine mz_kS Value.int X hH hS hl.1.1 [.int x2, .int 0, .int 2] [] hr (ct_X12_within l g h x2 0 2) mb_RX12_142 im_X12_within rfl (Nat.le_of_ble_eq_true rfl) ⟨Nat.le_of_ble_eq_true rfl, Nat.le_of_ble_eq_true rfl⟩ hc hs dX12_tally_18 rfl (fun v2 h H locs cells slots dc ds hr hH hS hc hs => ?_)
    refine mz_if_ne X 27 dX12_tally_21 (by decide) hr (fun hr => ?_) (fun hr => ?_)
    · refine lv_iload_n X.1 X.2.1 dX12_tally_27 rfl (mz_at hl 2 rfl) ?_
      refine lv_iconst (v := 1) X.1 X.2.1 dX12_tally_28 (by decide) ?_
      refine mz_icmp_ne X 40 dX12_tally_29 (by decide) hr (fun hr => ?_) (fun hr => ?_)
      · exact pf_X12_tally_b40 r Y h a0 x1 x2 x3 _ _ hr H locs cells slots ls hH hS (mz_sub hl [0, 1, 2, 3] rfl) hc hs
      · refine mz_aload_n X dX12_tally_32 rfl (mz_at hl 0 rfl) ?_
        refine lv_iload_n X.1 X.2.1 dX12_tally_33 rfl (mz_at hl 1 rfl) ?_
        refine mz_kV Value.int X hH hS hl.1.1 [.int x1] [] hr (ct_X12_isConcrete l g h a0 x1) mb_RX12_208 rfl im_X12_isConcrete rfl (Nat.le_of_ble_eq_true rfl) ⟨Nat.le_of_ble_eq_true rfl, Nat.le_of_ble_eq_true rfl⟩ hc hs dX12_tally_34 rfl (fun v3 h H locs cells slots dc ds hr hH hS hc hs => ?_)
        refine mz_if_eq X 55 dX12_tally_37 (by decide) hr (fun hr => ?_) (fun hr => ?_)
        · exact pf_X12_tally_b55 r Y h a0 _ _ hr H locs cells slots ls hH hS (mz_sub hl [0] rfl) hc hs
        · exact pf_X12_tally_b40 r Y h a0 x1 x2 x3 _ _ hr H locs cells slots ls hH hS (mz_sub hl [0, 1, 2, 3] rfl) hc hs
    · refine lv_bipush (v := (-2)) X.1 X.2.1 dX12_tally_24 (by decide) ?_
      exact mz_iret Y dX12_tally_26 hH hS hc hs hr
  · refine lv_iconst (v := (-1)) X.1 X.2.1 dX12_tally_13 (by decide) ?_
    exact mz_iret Y dX12_tally_14 hH hS hc hs hr
set_option maxRecDepth 100000 in
theorem ct_X12_tally (l : Launch) (g : mz_G) (h : mz_H) (a0 : (Option Nat)) (x1 : Int32) (x2 : Int32) (x3 : Int32) (r : Int32) (hf : mz_H) (k n : Nat) (hr : fn_X12_tally h a0 x1 x2 x3 = some (r, hf, k, n)) : mz_C l g yX12_tally cX12_tally 4 (some .int) 1 22 [va_rf a0, .int x1, .int x2, .int x3] h (some (Value.int r)) hf k n := by
  refine mz_met (as := [(false, va_rf a0), (false, .int x1), (false, .int x2), (false, .int x3)]) (plainFor_of_name (by decide)) (mz_c1 (mz_cat_rf _) (mz_c1 rfl (mz_c1 rfl (mz_c1 rfl mz_c0)))) (Nat.le_of_ble_eq_true rfl) ?_
  intro p e s m args below meth c Y
  exact pf_X12_tally_b0 r Y h a0 x1 x2 x3 _ _ hr
theorem dX12_offer_0 : decode cX12_offer 0 = .ok (.aload_n 0, 1) := by decide +kernel
theorem dX12_offer_1 : decode cX12_offer 1 = .ok (.iconst 0, 1) := by decide +kernel
theorem dX12_offer_2 : decode cX12_offer 2 = .ok (.putfield 125, 3) := by decide +kernel
theorem dX12_offer_5 : decode cX12_offer 5 = .ok (.aload_n 0, 1) := by decide +kernel
theorem dX12_offer_6 : decode cX12_offer 6 = .ok (.iload_n 1, 1) := by decide +kernel
theorem dX12_offer_7 : decode cX12_offer 7 = .ok (.invokevirtual 138, 3) := by decide +kernel
theorem dX12_offer_10 : decode cX12_offer 10 = .ok (.ifCond .ne 5, 3) := by decide +kernel
theorem dX12_offer_13 : decode cX12_offer 13 = .ok (.iconst (-1), 1) := by decide +kernel
theorem dX12_offer_14 : decode cX12_offer 14 = .ok (.ireturn, 1) := by decide +kernel
theorem dX12_offer_15 : decode cX12_offer 15 = .ok (.aload_n 0, 1) := by decide +kernel
theorem dX12_offer_16 : decode cX12_offer 16 = .ok (.iload_n 1, 1) := by decide +kernel
theorem dX12_offer_17 : decode cX12_offer 17 = .ok (.invokevirtual 208, 3) := by decide +kernel
theorem dX12_offer_20 : decode cX12_offer 20 = .ok (.ifCond .ne 9, 3) := by decide +kernel
theorem dX12_offer_23 : decode cX12_offer 23 = .ok (.aload_n 0, 1) := by decide +kernel
theorem dX12_offer_24 : decode cX12_offer 24 = .ok (.iconst 2, 1) := by decide +kernel
theorem dX12_offer_25 : decode cX12_offer 25 = .ok (.invokevirtual 131, 3) := by decide +kernel
theorem dX12_offer_28 : decode cX12_offer 28 = .ok (.ireturn, 1) := by decide +kernel
theorem dX12_offer_29 : decode cX12_offer 29 = .ok (.aload_n 0, 1) := by decide +kernel
theorem dX12_offer_30 : decode cX12_offer 30 = .ok (.getfield 7, 3) := by decide +kernel
theorem dX12_offer_33 : decode cX12_offer 33 = .ok (.iload_n 1, 1) := by decide +kernel
theorem dX12_offer_34 : decode cX12_offer 34 = .ok (.iaload, 1) := by decide +kernel
theorem dX12_offer_35 : decode cX12_offer 35 = .ok (.iconst 3, 1) := by decide +kernel
theorem dX12_offer_36 : decode cX12_offer 36 = .ok (.if_icmp .ne 8, 3) := by decide +kernel
theorem dX12_offer_39 : decode cX12_offer 39 = .ok (.bipush 24, 2) := by decide +kernel
theorem dX12_offer_41 : decode cX12_offer 41 = .ok (.goto 12, 3) := by decide +kernel
theorem dX12_offer_44 : decode cX12_offer 44 = .ok (.bipush 10, 2) := by decide +kernel
theorem dX12_offer_46 : decode cX12_offer 46 = .ok (.aload_n 0, 1) := by decide +kernel
theorem dX12_offer_47 : decode cX12_offer 47 = .ok (.getfield 28, 3) := by decide +kernel
theorem dX12_offer_50 : decode cX12_offer 50 = .ok (.iload_n 1, 1) := by decide +kernel
theorem dX12_offer_51 : decode cX12_offer 51 = .ok (.iaload, 1) := by decide +kernel
theorem dX12_offer_52 : decode cX12_offer 52 = .ok (.iadd, 1) := by decide +kernel
theorem dX12_offer_53 : decode cX12_offer 53 = .ok (.ireturn, 1) := by decide +kernel
def fn_X12_offer (h : mz_H) (a0 : (Option Nat)) (x1 : Int32) : mz_Res Int32 :=
  mz_op (mz_pF h a0 11 0 (Value.int 0)) fun h =>
  mz_chk (mz_is h a0 11) <| mz_call (fn_X12_isClass h a0 x1) fun v1 h =>
  if v1 = 0 then
    mz_ret (-1) h
  else
    mz_chk (mz_is h a0 11) <| mz_call (fn_X12_isConcrete h a0 x1) fun v2 h =>
    if v2 = 0 then
      mz_chk (mz_is h a0 11) <| mz_call (fn_X12_fails h a0 2) fun v7 h =>
      mz_ret v7 h
    else
      mz_op (mz_fR h a0 11 3) fun v3 =>
      mz_op (mz_aI h v3 0 x1) fun v4 =>
      if v4 = 3 then
        mz_ret 24 h
      else
        mz_op (mz_fR h a0 11 9) fun v5 =>
        mz_op (mz_aI h v5 0 x1) fun v6 =>
        mz_ret (10 + v6) h
set_option maxHeartbeats 4000000 in
set_option maxRecDepth 100000 in
theorem pf_X12_offer_b0 (r : Int32) (Y : mz_Y p g RX12 cX12_offer 2 (some .int) "offer" (mz_AF h0) s m args meth c) (h : mz_H) (a0 : (Option Nat)) (x1 : Int32) (dc ds : Nat) (hr : fn_X12_offer h a0 x1 = some (r, hf, dc, ds)) : mz_Go l g p e s m args below meth c 1 21 DC DS h0 (some (Value.int r)) hf 2 0 [(0, false, va_rf a0), (1, false, .int x1)] [] h dc ds := by
  unfold fn_X12_offer at hr
  intro H locs cells slots ls hH hS hl hc hs
  have X := Y.1
  refine mz_aload_n X dX12_offer_0 rfl (mz_at hl 0 rfl) ?_
  refine lv_iconst (v := 0) X.1 X.2.1 dX12_offer_1 (by decide) ?_
  refine mz_put X hH hS fp_RX12_125 dX12_offer_2 rfl rfl hr (fun h H locs hr hH hS => ?_)
  refine mz_aload_n X dX12_offer_5 rfl (mz_at hl 0 rfl) ?_
  refine lv_iload_n X.1 X.2.1 dX12_offer_6 rfl (mz_at hl 1 rfl) ?_
  refine mz_kV Value.int X hH hS hl.1.1 [.int x1] [] hr (ct_X12_isClass l g h a0 x1) mb_RX12_138 rfl im_X12_isClass rfl (Nat.le_of_ble_eq_true rfl) ⟨Nat.le_of_ble_eq_true rfl, Nat.le_of_ble_eq_true rfl⟩ hc hs dX12_offer_7 rfl (fun v1 h H locs cells slots dc ds hr hH hS hc hs => ?_)
  refine mz_if_ne X 15 dX12_offer_10 (by decide) hr (fun hr => ?_) (fun hr => ?_)
  · refine mz_aload_n X dX12_offer_15 rfl (mz_at hl 0 rfl) ?_
    refine lv_iload_n X.1 X.2.1 dX12_offer_16 rfl (mz_at hl 1 rfl) ?_
    refine mz_kV Value.int X hH hS hl.1.1 [.int x1] [] hr (ct_X12_isConcrete l g h a0 x1) mb_RX12_208 rfl im_X12_isConcrete rfl (Nat.le_of_ble_eq_true rfl) ⟨Nat.le_of_ble_eq_true rfl, Nat.le_of_ble_eq_true rfl⟩ hc hs dX12_offer_17 rfl (fun v2 h H locs cells slots dc ds hr hH hS hc hs => ?_)
    refine mz_if_ne X 29 dX12_offer_20 (by decide) hr (fun hr => ?_) (fun hr => ?_)
    · refine mz_aload_n X dX12_offer_29 rfl (mz_at hl 0 rfl) ?_
      refine mz_getR X hH fl_RX12_7 dX12_offer_30 hr (fun v3 hr => ?_)
      refine lv_iload_n X.1 X.2.1 dX12_offer_33 rfl (mz_at hl 1 rfl) ?_
      refine mz_iald X hH dX12_offer_34 hr (fun v4 hr => ?_)
      refine lv_iconst (v := 3) X.1 X.2.1 dX12_offer_35 (by decide) ?_
      refine mz_icmp_ne X 44 dX12_offer_36 (by decide) hr (fun hr => ?_) (fun hr => ?_)
      · refine lv_bipush (v := 10) X.1 X.2.1 dX12_offer_44 (by decide) ?_
        refine mz_aload_n X dX12_offer_46 rfl (mz_at hl 0 rfl) ?_
        refine mz_getR X hH fl_RX12_28 dX12_offer_47 hr (fun v5 hr => ?_)
        refine lv_iload_n X.1 X.2.1 dX12_offer_50 rfl (mz_at hl 1 rfl) ?_
        refine mz_iald X hH dX12_offer_51 hr (fun v6 hr => ?_)
        refine lv_iadd X.1 X.2.1 dX12_offer_52 ?_
        exact mz_iret Y dX12_offer_53 hH hS hc hs hr
      · refine lv_bipush (v := 24) X.1 X.2.1 dX12_offer_39 (by decide) ?_
        refine lv_goto (tgt := 53) X.1 X.2.1 dX12_offer_41 (by decide) ?_
        exact mz_iret Y dX12_offer_53 hH hS hc hs hr
    · refine mz_aload_n X dX12_offer_23 rfl (mz_at hl 0 rfl) ?_
      refine lv_iconst (v := 2) X.1 X.2.1 dX12_offer_24 (by decide) ?_
      refine mz_kV Value.int X hH hS hl.1.1 [.int 2] [] hr (ct_X12_fails l g h a0 2) mb_RX12_131 rfl im_X12_fails rfl (Nat.le_of_ble_eq_true rfl) ⟨Nat.le_of_ble_eq_true rfl, Nat.le_of_ble_eq_true rfl⟩ hc hs dX12_offer_25 rfl (fun v7 h H locs cells slots dc ds hr hH hS hc hs => ?_)
      exact mz_iret Y dX12_offer_28 hH hS hc hs hr
  · refine lv_iconst (v := (-1)) X.1 X.2.1 dX12_offer_13 (by decide) ?_
    exact mz_iret Y dX12_offer_14 hH hS hc hs hr
set_option maxRecDepth 100000 in
theorem ct_X12_offer (l : Launch) (g : mz_G) (h : mz_H) (a0 : (Option Nat)) (x1 : Int32) (r : Int32) (hf : mz_H) (k n : Nat) (hr : fn_X12_offer h a0 x1 = some (r, hf, k, n)) : mz_C l g yX12_offer cX12_offer 2 (some .int) 1 21 [va_rf a0, .int x1] h (some (Value.int r)) hf k n := by
  refine mz_met (as := [(false, va_rf a0), (false, .int x1)]) (plainFor_of_name (by decide)) (mz_c1 (mz_cat_rf _) (mz_c1 rfl mz_c0)) (Nat.le_of_ble_eq_true rfl) ?_
  intro p e s m args below meth c Y
  exact pf_X12_offer_b0 r Y h a0 x1 _ _ hr
end
