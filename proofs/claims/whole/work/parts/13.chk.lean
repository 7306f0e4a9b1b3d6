/-! every instruction of the blocks stands in the code, at its place, with its links -/
def ai_own (mi : Nat) : String := (ai_rw mi).1.cls
/-- a branch's target -/
def ai_tgt (mi pc : Nat) (off : Int) (b : Nat) : Bool := decide ((pc : Int) + off = ((ai_pc mi b : Nat) : Int))
def ai_tgs (mi pc : Nat) : List Int → List Nat → Bool
  | [], [] => true
  | o :: os, b :: bs => ai_tgt mi pc o b && ai_tgs mi pc os bs
  | _, _ => false
def ai_fok (mi i : Nat) (aux : List Nat) : Bool := match aux with
  | [ci, j, ty, fi] => (match ai_flt[fi]? with
    | some r => decide (r.1 = ai_own mi) && (Nat.beq r.2.1 i && (Nat.beq r.2.2.1 ci && (Nat.beq r.2.2.2.1 j && (Nat.beq ty (ai_ft ci j) && (Nat.blt j (ai_nf ci) && Nat.blt ci 12)))))
    | none => false)
  | _ => false
def ai_pok (mi : Nat) (aux : List Nat) : Bool := match aux with
  | ci :: j :: _ => bif ((ai_C ci).2.1 j).2.2.2 then decide ((ai_rw mi).1.name = "<init>") && decide (((ai_C ci).2.1 j).1 = ai_own mi) else true
  | _ => false
def ai_iok (mi pc i kd : Nat) (aux : List Nat) : Bool := match aux with
  | [cal, n, ci, hd, k] => (match ai_mlt[k]? with
    | some r => decide (r.1 = ai_own mi) && (Nat.beq r.2.1 i && (Nat.beq r.2.2.1 cal && (Nat.beq r.2.2.2.1 n && (Nat.beq r.2.2.2.2.1 ci && (Nat.beq r.2.2.2.2.2.1 kd && (Nat.blt cal 216 || Nat.ble 300 cal && Nat.blt cal 304 )))))) && ((bif Nat.beq hd 0 then true else Nat.beq mi 174 && (Nat.ble 50 pc && (Nat.blt pc 54 && (Nat.beq (ai_pc 174 hd) 57 && Nat.beq kd 0)))) && (bif Nat.beq kd 1 then Nat.beq ci 999 else Nat.ble 1 n && (bif Nat.beq cal 300 || Nat.beq cal 301 then Nat.beq ci 998 else Nat.blt ci 12 && decide ((ai_C ci).1 = (ai_y cal).cls))))
    | none => false)
  | _ => false
def ai_opk (mi pc len : Nat) (op : ai_Op) : Bool := match op.1 with
  | .iconst n => Nat.beq len 1 && decide (Int32.ofInt n = op.2.2)
  | .bipush n => Nat.beq len 2 && decide ((Int8.ofInt n).toInt32 = op.2.2)
  | .sipush n => Nat.beq len 3 && decide ((Int16.ofInt n).toInt32 = op.2.2)
  | .ldc i => Nat.beq len 2 && (match op.2.1 with
    | [] => (ai_kst.map Prod.fst).contains (.constant (ai_own mi) i op.2.2)
    | j :: _ => (match ai_stk[j]? with
      | some r => decide (r.1 = ai_own mi) && Nat.beq r.2.1 i
      | none => false))
  | .ldc_w i => Nat.beq len 3 && (match op.2.1 with
    | [] => (ai_kst.map Prod.fst).contains (.constant (ai_own mi) i op.2.2)
    | j :: _ => (match ai_stk[j]? with
      | some r => decide (r.1 = ai_own mi) && Nat.beq r.2.1 i
      | none => false))
  | .ldc2_w i => Nat.beq len 3 && (ai_kst.map Prod.fst).contains (.constantLong (ai_own mi) i op.2.2.toInt64)
  | .iload _ | .lload _ | .aload _ | .istore _ | .lstore _ | .astore _ | .newarray _ => Nat.beq len 2
  | .iinc _ n => Nat.beq len 3 && decide (Int32.ofInt n = op.2.2)
  | .ifCond _ off | .if_icmp _ off | .goto off => Nat.beq len 3 && ai_tgt mi pc off (op.2.1.headD 0)
  | .tableswitch d lo hi offs => ai_tgt mi pc d (op.2.1.headD 0) && (ai_tgs mi pc offs.toList op.2.1.tail && decide (hi - lo + 1 = (offs.size : Int)))
  | .lookupswitch d ps => (ps.toList.zip (ps.toList.drop 1)).all (fun (a, next) => a.1 < next.1) && (ai_tgt mi pc d (op.2.1.headD 0) && ai_tgs mi pc (ps.toList.map Prod.snd) op.2.1.tail)
  | .ireturn => Nat.beq len 1 && decide (ai_ret mi = bif Nat.beq (op.2.1.headD 0) 1 then some .boolean else some .int)
  | .lreturn => Nat.beq len 1 && decide (ai_ret mi = some .long)
  | .areturn => Nat.beq len 1 && (match ai_ret mi with
    | some (.object _) => true
    | _ => false)
  | .return_ => Nat.beq len 1 && decide (ai_ret mi = none)
  | .athrow => Nat.beq len 1 && !(Nat.beq mi 174)
  | .getfield i => Nat.beq len 3 && ai_fok mi i op.2.1
  | .putfield i => Nat.beq len 3 && (ai_fok mi i op.2.1 && ai_pok mi op.2.1)
  | .new i => Nat.beq len 3 && (match op.2.1 with
    | [ci] => Nat.blt ci 12 && (ai_clt.map fun r => (r.1, r.2.1, r.2.2.1)).contains (ai_own mi, i, ci)
    | _ => false)
  | .invokevirtual i => Nat.beq len 3 && ai_iok mi pc i 0 op.2.1
  | .invokestatic i => Nat.beq len 3 && ai_iok mi pc i 1 op.2.1
  | .invokespecial i => Nat.beq len 3 && (match op.2.1 with
    | cal :: _ => bif Nat.beq cal 998 then (ai_oit.map fun r => (r.1, r.2.1)).contains (ai_own mi, i) else ai_iok mi pc i 2 op.2.1
    | _ => false)
  | _ => Nat.beq len 1
def ai_trm : Instr → Bool
  | .goto _ | .tableswitch .. | .lookupswitch .. | .ireturn | .lreturn | .areturn | .return_ | .athrow => true
  | _ => false
def ai_ck (mi nx : Nat) : List ai_Op → Nat → Bool
  | [], pc => Nat.beq (ai_pc mi nx) pc
  | op :: ops, pc => (match decode (ai_bts mi) pc with
    | .ok q => decide (q.1 = op.1) && (ai_opk mi pc q.2 op && (bif ai_trm op.1 then ops.isEmpty else ai_ck mi nx ops (pc + q.2)))
    | .error _ => false)
def ai_ckB (mi : Nat) : List ai_Bk → Nat → Bool
  | [], _ => true
  | bk :: bs, b => Nat.blt b 400 && (ai_ck mi bk.2.1 bk.1 (ai_pc mi b) && (Nat.beq bk.2.2.length (ai_mx mi) && ai_ckB mi bs (b + 1)))
def ai_ckM (mi : Nat) : Bool := ai_ckB mi ((ai_prog[mi]?).getD []) 0 && Nat.ble (ai_mx mi) 16

theorem ai_ck_0 : ai_ckM 0 = true := by decide +kernel
theorem ai_ck_1 : ai_ckM 1 = true := by decide +kernel
theorem ai_ck_2 : ai_ckM 2 = true := by decide +kernel
theorem ai_ck_3 : ai_ckM 3 = true := by decide +kernel
theorem ai_ck_4 : ai_ckM 4 = true := by decide +kernel
theorem ai_ck_5 : ai_ckM 5 = true := by decide +kernel
theorem ai_ck_6 : ai_ckM 6 = true := by decide +kernel
theorem ai_ck_7 : ai_ckM 7 = true := by decide +kernel
theorem ai_ck_8 : ai_ckM 8 = true := by decide +kernel
theorem ai_ck_9 : ai_ckM 9 = true := by decide +kernel
theorem ai_ck_10 : ai_ckM 10 = true := by decide +kernel
theorem ai_ck_11 : ai_ckM 11 = true := by decide +kernel
theorem ai_ck_12 : ai_ckM 12 = true := by decide +kernel
theorem ai_ck_13 : ai_ckM 13 = true := by decide +kernel
theorem ai_ck_14 : ai_ckM 14 = true := by decide +kernel
theorem ai_ck_15 : ai_ckM 15 = true := by decide +kernel
theorem ai_ck_16 : ai_ckM 16 = true := by decide +kernel
theorem ai_ck_17 : ai_ckM 17 = true := by decide +kernel
theorem ai_ck_18 : ai_ckM 18 = true := by decide +kernel
theorem ai_ck_19 : ai_ckM 19 = true := by decide +kernel
theorem ai_ck_20 : ai_ckM 20 = true := by decide +kernel
theorem ai_ck_21 : ai_ckM 21 = true := by decide +kernel
theorem ai_ck_22 : ai_ckM 22 = true := by decide +kernel
theorem ai_ck_23 : ai_ckM 23 = true := by decide +kernel
theorem ai_ck_24 : ai_ckM 24 = true := by decide +kernel
theorem ai_ck_25 : ai_ckM 25 = true := by decide +kernel
theorem ai_ck_26 : ai_ckM 26 = true := by decide +kernel
theorem ai_ck_27 : ai_ckM 27 = true := by decide +kernel
theorem ai_ck_28 : ai_ckM 28 = true := by decide +kernel
theorem ai_ck_29 : ai_ckM 29 = true := by decide +kernel
theorem ai_ck_30 : ai_ckM 30 = true := by decide +kernel
theorem ai_ck_31 : ai_ckM 31 = true := by decide +kernel
theorem ai_ck_32 : ai_ckM 32 = true := by decide +kernel
theorem ai_ck_33 : ai_ckM 33 = true := by decide +kernel
theorem ai_ck_34 : ai_ckM 34 = true := by decide +kernel
theorem ai_ck_35 : ai_ckM 35 = true := by decide +kernel
theorem ai_ck_36 : ai_ckM 36 = true := by decide +kernel
theorem ai_ck_37 : ai_ckM 37 = true := by decide +kernel
theorem ai_ck_38 : ai_ckM 38 = true := by decide +kernel
theorem ai_ck_39 : ai_ckM 39 = true := by decide +kernel
theorem ai_ck_40 : ai_ckM 40 = true := by decide +kernel
theorem ai_ck_41 : ai_ckM 41 = true := by decide +kernel
theorem ai_ck_42 : ai_ckM 42 = true := by decide +kernel
theorem ai_ck_43 : ai_ckM 43 = true := by decide +kernel
theorem ai_ck_44 : ai_ckM 44 = true := by decide +kernel
theorem ai_ck_45 : ai_ckM 45 = true := by decide +kernel
theorem ai_ck_46 : ai_ckM 46 = true := by decide +kernel
theorem ai_ck_47 : ai_ckM 47 = true := by decide +kernel
theorem ai_ck_48 : ai_ckM 48 = true := by decide +kernel
theorem ai_ck_49 : ai_ckM 49 = true := by decide +kernel
theorem ai_ck_50 : ai_ckM 50 = true := by decide +kernel
theorem ai_ck_51 : ai_ckM 51 = true := by decide +kernel
theorem ai_ck_52 : ai_ckM 52 = true := by decide +kernel
theorem ai_ck_53 : ai_ckM 53 = true := by decide +kernel
theorem ai_ck_54 : ai_ckM 54 = true := by decide +kernel
theorem ai_ck_55 : ai_ckM 55 = true := by decide +kernel
theorem ai_ck_56 : ai_ckM 56 = true := by decide +kernel
theorem ai_ck_57 : ai_ckM 57 = true := by decide +kernel
theorem ai_ck_58 : ai_ckM 58 = true := by decide +kernel
theorem ai_ck_59 : ai_ckM 59 = true := by decide +kernel
theorem ai_ck_60 : ai_ckM 60 = true := by decide +kernel
theorem ai_ck_61 : ai_ckM 61 = true := by decide +kernel
theorem ai_ck_62 : ai_ckM 62 = true := by decide +kernel
theorem ai_ck_63 : ai_ckM 63 = true := by decide +kernel
theorem ai_ck_64 : ai_ckM 64 = true := by decide +kernel
theorem ai_ck_65 : ai_ckM 65 = true := by decide +kernel
theorem ai_ck_66 : ai_ckM 66 = true := by decide +kernel
theorem ai_ck_67 : ai_ckM 67 = true := by decide +kernel
theorem ai_ck_68 : ai_ckM 68 = true := by decide +kernel
theorem ai_ck_69 : ai_ckM 69 = true := by decide +kernel
theorem ai_ck_70 : ai_ckM 70 = true := by decide +kernel
theorem ai_ck_71 : ai_ckM 71 = true := by decide +kernel
theorem ai_ck_72 : ai_ckM 72 = true := by decide +kernel
theorem ai_ck_73 : ai_ckM 73 = true := by decide +kernel
theorem ai_ck_74 : ai_ckM 74 = true := by decide +kernel
theorem ai_ck_75 : ai_ckM 75 = true := by decide +kernel
theorem ai_ck_76 : ai_ckM 76 = true := by decide +kernel
theorem ai_ck_77 : ai_ckM 77 = true := by decide +kernel
theorem ai_ck_78 : ai_ckM 78 = true := by decide +kernel
theorem ai_ck_79 : ai_ckM 79 = true := by decide +kernel
theorem ai_ck_80 : ai_ckM 80 = true := by decide +kernel
theorem ai_ck_81 : ai_ckM 81 = true := by decide +kernel
theorem ai_ck_82 : ai_ckM 82 = true := by decide +kernel
theorem ai_ck_83 : ai_ckM 83 = true := by decide +kernel
theorem ai_ck_84 : ai_ckM 84 = true := by decide +kernel
theorem ai_ck_85 : ai_ckM 85 = true := by decide +kernel
theorem ai_ck_86 : ai_ckM 86 = true := by decide +kernel
theorem ai_ck_87 : ai_ckM 87 = true := by decide +kernel
theorem ai_ck_88 : ai_ckM 88 = true := by decide +kernel
theorem ai_ck_89 : ai_ckM 89 = true := by decide +kernel
theorem ai_ck_90 : ai_ckM 90 = true := by decide +kernel
theorem ai_ck_91 : ai_ckM 91 = true := by decide +kernel
theorem ai_ck_92 : ai_ckM 92 = true := by decide +kernel
theorem ai_ck_93 : ai_ckM 93 = true := by decide +kernel
theorem ai_ck_94 : ai_ckM 94 = true := by decide +kernel
theorem ai_ck_95 : ai_ckM 95 = true := by decide +kernel
theorem ai_ck_96 : ai_ckM 96 = true := by decide +kernel
theorem ai_ck_97 : ai_ckM 97 = true := by decide +kernel
theorem ai_ck_98 : ai_ckM 98 = true := by decide +kernel
theorem ai_ck_99 : ai_ckM 99 = true := by decide +kernel
theorem ai_ck_100 : ai_ckM 100 = true := by decide +kernel
theorem ai_ck_101 : ai_ckM 101 = true := by decide +kernel
theorem ai_ck_102 : ai_ckM 102 = true := by decide +kernel
theorem ai_ck_103 : ai_ckM 103 = true := by decide +kernel
theorem ai_ck_104 : ai_ckM 104 = true := by decide +kernel
theorem ai_ck_105 : ai_ckM 105 = true := by decide +kernel
theorem ai_ck_106 : ai_ckM 106 = true := by decide +kernel
theorem ai_ck_107 : ai_ckM 107 = true := by decide +kernel
theorem ai_ck_108 : ai_ckM 108 = true := by decide +kernel
theorem ai_ck_109 : ai_ckM 109 = true := by decide +kernel
theorem ai_ck_110 : ai_ckM 110 = true := by decide +kernel
theorem ai_ck_111 : ai_ckM 111 = true := by decide +kernel
theorem ai_ck_112 : ai_ckM 112 = true := by decide +kernel
theorem ai_ck_113 : ai_ckM 113 = true := by decide +kernel
theorem ai_ck_114 : ai_ckM 114 = true := by decide +kernel
theorem ai_ck_115 : ai_ckM 115 = true := by decide +kernel
theorem ai_ck_116 : ai_ckM 116 = true := by decide +kernel
theorem ai_ck_117 : ai_ckM 117 = true := by decide +kernel
theorem ai_ck_118 : ai_ckM 118 = true := by decide +kernel
theorem ai_ck_119 : ai_ckM 119 = true := by decide +kernel
theorem ai_ck_120 : ai_ckM 120 = true := by decide +kernel
theorem ai_ck_121 : ai_ckM 121 = true := by decide +kernel
theorem ai_ck_122 : ai_ckM 122 = true := by decide +kernel
theorem ai_ck_123 : ai_ckM 123 = true := by decide +kernel
theorem ai_ck_124 : ai_ckM 124 = true := by decide +kernel
theorem ai_ck_125 : ai_ckM 125 = true := by decide +kernel
theorem ai_ck_126 : ai_ckM 126 = true := by decide +kernel
theorem ai_ck_127 : ai_ckM 127 = true := by decide +kernel
theorem ai_ck_128 : ai_ckM 128 = true := by decide +kernel
theorem ai_ck_129 : ai_ckM 129 = true := by decide +kernel
theorem ai_ck_130 : ai_ckM 130 = true := by decide +kernel
theorem ai_ck_131 : ai_ckM 131 = true := by decide +kernel
theorem ai_ck_132 : ai_ckM 132 = true := by decide +kernel
theorem ai_ck_133 : ai_ckM 133 = true := by decide +kernel
theorem ai_ck_134 : ai_ckM 134 = true := by decide +kernel
theorem ai_ck_135 : ai_ckM 135 = true := by decide +kernel
theorem ai_ck_136 : ai_ckM 136 = true := by decide +kernel
theorem ai_ck_137 : ai_ckM 137 = true := by decide +kernel
theorem ai_ck_138 : ai_ckM 138 = true := by decide +kernel
theorem ai_ck_139 : ai_ckM 139 = true := by decide +kernel
theorem ai_ck_140 : ai_ckM 140 = true := by decide +kernel
theorem ai_ck_141 : ai_ckM 141 = true := by decide +kernel
theorem ai_ck_142 : ai_ckM 142 = true := by decide +kernel
theorem ai_ck_143 : ai_ckM 143 = true := by decide +kernel
theorem ai_ck_144 : ai_ckM 144 = true := by decide +kernel
theorem ai_ck_145 : ai_ckM 145 = true := by decide +kernel
theorem ai_ck_146 : ai_ckM 146 = true := by decide +kernel
theorem ai_ck_147 : ai_ckM 147 = true := by decide +kernel
theorem ai_ck_148 : ai_ckM 148 = true := by decide +kernel
theorem ai_ck_149 : ai_ckM 149 = true := by decide +kernel
theorem ai_ck_150 : ai_ckM 150 = true := by decide +kernel
theorem ai_ck_151 : ai_ckM 151 = true := by decide +kernel
theorem ai_ck_152 : ai_ckM 152 = true := by decide +kernel
theorem ai_ck_153 : ai_ckM 153 = true := by decide +kernel
theorem ai_ck_154 : ai_ckM 154 = true := by decide +kernel
theorem ai_ck_155 : ai_ckM 155 = true := by decide +kernel
theorem ai_ck_156 : ai_ckM 156 = true := by decide +kernel
theorem ai_ck_157 : ai_ckM 157 = true := by decide +kernel
theorem ai_ck_158 : ai_ckM 158 = true := by decide +kernel
theorem ai_ck_159 : ai_ckM 159 = true := by decide +kernel
theorem ai_ck_160 : ai_ckM 160 = true := by decide +kernel
theorem ai_ck_161 : ai_ckM 161 = true := by decide +kernel
theorem ai_ck_162 : ai_ckM 162 = true := by decide +kernel
theorem ai_ck_163 : ai_ckM 163 = true := by decide +kernel
theorem ai_ck_164 : ai_ckM 164 = true := by decide +kernel
theorem ai_ck_165 : ai_ckM 165 = true := by decide +kernel
theorem ai_ck_166 : ai_ckM 166 = true := by decide +kernel
theorem ai_ck_167 : ai_ckM 167 = true := by decide +kernel
theorem ai_ck_168 : ai_ckM 168 = true := by decide +kernel
theorem ai_ck_169 : ai_ckM 169 = true := by decide +kernel
theorem ai_ck_170 : ai_ckM 170 = true := by decide +kernel
theorem ai_ck_171 : ai_ckM 171 = true := by decide +kernel
theorem ai_ck_172 : ai_ckM 172 = true := by decide +kernel
theorem ai_ck_173 : ai_ckM 173 = true := by decide +kernel
theorem ai_ck_174 : ai_ckM 174 = true := by decide +kernel
theorem ai_ck_175 : ai_ckM 175 = true := by decide +kernel
theorem ai_ck_176 : ai_ckM 176 = true := by decide +kernel
theorem ai_ck_177 : ai_ckM 177 = true := by decide +kernel
theorem ai_ck_178 : ai_ckM 178 = true := by decide +kernel
theorem ai_ck_179 : ai_ckM 179 = true := by decide +kernel
theorem ai_ck_180 : ai_ckM 180 = true := by decide +kernel
theorem ai_ck_181 : ai_ckM 181 = true := by decide +kernel
theorem ai_ck_182 : ai_ckM 182 = true := by decide +kernel
theorem ai_ck_183 : ai_ckM 183 = true := by decide +kernel
theorem ai_ck_184 : ai_ckM 184 = true := by decide +kernel
theorem ai_ck_185 : ai_ckM 185 = true := by decide +kernel
theorem ai_ck_186 : ai_ckM 186 = true := by decide +kernel
theorem ai_ck_187 : ai_ckM 187 = true := by decide +kernel
theorem ai_ck_188 : ai_ckM 188 = true := by decide +kernel
theorem ai_ck_189 : ai_ckM 189 = true := by decide +kernel
theorem ai_ck_190 : ai_ckM 190 = true := by decide +kernel
theorem ai_ck_191 : ai_ckM 191 = true := by decide +kernel
theorem ai_ck_192 : ai_ckM 192 = true := by decide +kernel
theorem ai_ck_193 : ai_ckM 193 = true := by decide +kernel
theorem ai_ck_194 : ai_ckM 194 = true := by decide +kernel
theorem ai_ck_195 : ai_ckM 195 = true := by decide +kernel
theorem ai_ck_196 : ai_ckM 196 = true := by decide +kernel
theorem ai_ck_197 : ai_ckM 197 = true := by decide +kernel
theorem ai_ck_198 : ai_ckM 198 = true := by decide +kernel
theorem ai_ck_199 : ai_ckM 199 = true := by decide +kernel
theorem ai_ck_200 : ai_ckM 200 = true := by decide +kernel
theorem ai_ck_201 : ai_ckM 201 = true := by decide +kernel
theorem ai_ck_202 : ai_ckM 202 = true := by decide +kernel
theorem ai_ck_203 : ai_ckM 203 = true := by decide +kernel
theorem ai_ck_204 : ai_ckM 204 = true := by decide +kernel
theorem ai_ck_205 : ai_ckM 205 = true := by decide +kernel
theorem ai_ck_206 : ai_ckM 206 = true := by decide +kernel
theorem ai_ck_207 : ai_ckM 207 = true := by decide +kernel
theorem ai_ck_208 : ai_ckM 208 = true := by decide +kernel
theorem ai_ck_209 : ai_ckM 209 = true := by decide +kernel
theorem ai_ck_210 : ai_ckM 210 = true := by decide +kernel
theorem ai_ck_211 : ai_ckM 211 = true := by decide +kernel
theorem ai_ck_212 : ai_ckM 212 = true := by decide +kernel
theorem ai_ck_213 : ai_ckM 213 = true := by decide +kernel
theorem ai_ck_214 : ai_ckM 214 = true := by decide +kernel
theorem ai_ck_215 : ai_ckM 215 = true := by decide +kernel
theorem ai_ck_all : ∀ mi : Nat, mi < 216 → ai_ckM mi = true := fun mi h => match mi, h with
  | 0, _ => ai_ck_0
  | 1, _ => ai_ck_1
  | 2, _ => ai_ck_2
  | 3, _ => ai_ck_3
  | 4, _ => ai_ck_4
  | 5, _ => ai_ck_5
  | 6, _ => ai_ck_6
  | 7, _ => ai_ck_7
  | 8, _ => ai_ck_8
  | 9, _ => ai_ck_9
  | 10, _ => ai_ck_10
  | 11, _ => ai_ck_11
  | 12, _ => ai_ck_12
  | 13, _ => ai_ck_13
  | 14, _ => ai_ck_14
  | 15, _ => ai_ck_15
  | 16, _ => ai_ck_16
  | 17, _ => ai_ck_17
  | 18, _ => ai_ck_18
  | 19, _ => ai_ck_19
  | 20, _ => ai_ck_20
  | 21, _ => ai_ck_21
  | 22, _ => ai_ck_22
  | 23, _ => ai_ck_23
  | 24, _ => ai_ck_24
  | 25, _ => ai_ck_25
  | 26, _ => ai_ck_26
  | 27, _ => ai_ck_27
  | 28, _ => ai_ck_28
  | 29, _ => ai_ck_29
  | 30, _ => ai_ck_30
  | 31, _ => ai_ck_31
  | 32, _ => ai_ck_32
  | 33, _ => ai_ck_33
  | 34, _ => ai_ck_34
  | 35, _ => ai_ck_35
  | 36, _ => ai_ck_36
  | 37, _ => ai_ck_37
  | 38, _ => ai_ck_38
  | 39, _ => ai_ck_39
  | 40, _ => ai_ck_40
  | 41, _ => ai_ck_41
  | 42, _ => ai_ck_42
  | 43, _ => ai_ck_43
  | 44, _ => ai_ck_44
  | 45, _ => ai_ck_45
  | 46, _ => ai_ck_46
  | 47, _ => ai_ck_47
  | 48, _ => ai_ck_48
  | 49, _ => ai_ck_49
  | 50, _ => ai_ck_50
  | 51, _ => ai_ck_51
  | 52, _ => ai_ck_52
  | 53, _ => ai_ck_53
  | 54, _ => ai_ck_54
  | 55, _ => ai_ck_55
  | 56, _ => ai_ck_56
  | 57, _ => ai_ck_57
  | 58, _ => ai_ck_58
  | 59, _ => ai_ck_59
  | 60, _ => ai_ck_60
  | 61, _ => ai_ck_61
  | 62, _ => ai_ck_62
  | 63, _ => ai_ck_63
  | 64, _ => ai_ck_64
  | 65, _ => ai_ck_65
  | 66, _ => ai_ck_66
  | 67, _ => ai_ck_67
  | 68, _ => ai_ck_68
  | 69, _ => ai_ck_69
  | 70, _ => ai_ck_70
  | 71, _ => ai_ck_71
  | 72, _ => ai_ck_72
  | 73, _ => ai_ck_73
  | 74, _ => ai_ck_74
  | 75, _ => ai_ck_75
  | 76, _ => ai_ck_76
  | 77, _ => ai_ck_77
  | 78, _ => ai_ck_78
  | 79, _ => ai_ck_79
  | 80, _ => ai_ck_80
  | 81, _ => ai_ck_81
  | 82, _ => ai_ck_82
  | 83, _ => ai_ck_83
  | 84, _ => ai_ck_84
  | 85, _ => ai_ck_85
  | 86, _ => ai_ck_86
  | 87, _ => ai_ck_87
  | 88, _ => ai_ck_88
  | 89, _ => ai_ck_89
  | 90, _ => ai_ck_90
  | 91, _ => ai_ck_91
  | 92, _ => ai_ck_92
  | 93, _ => ai_ck_93
  | 94, _ => ai_ck_94
  | 95, _ => ai_ck_95
  | 96, _ => ai_ck_96
  | 97, _ => ai_ck_97
  | 98, _ => ai_ck_98
  | 99, _ => ai_ck_99
  | 100, _ => ai_ck_100
  | 101, _ => ai_ck_101
  | 102, _ => ai_ck_102
  | 103, _ => ai_ck_103
  | 104, _ => ai_ck_104
  | 105, _ => ai_ck_105
  | 106, _ => ai_ck_106
  | 107, _ => ai_ck_107
  | 108, _ => ai_ck_108
  | 109, _ => ai_ck_109
  | 110, _ => ai_ck_110
  | 111, _ => ai_ck_111
  | 112, _ => ai_ck_112
  | 113, _ => ai_ck_113
  | 114, _ => ai_ck_114
  | 115, _ => ai_ck_115
  | 116, _ => ai_ck_116
  | 117, _ => ai_ck_117
  | 118, _ => ai_ck_118
  | 119, _ => ai_ck_119
  | 120, _ => ai_ck_120
  | 121, _ => ai_ck_121
  | 122, _ => ai_ck_122
  | 123, _ => ai_ck_123
  | 124, _ => ai_ck_124
  | 125, _ => ai_ck_125
  | 126, _ => ai_ck_126
  | 127, _ => ai_ck_127
  | 128, _ => ai_ck_128
  | 129, _ => ai_ck_129
  | 130, _ => ai_ck_130
  | 131, _ => ai_ck_131
  | 132, _ => ai_ck_132
  | 133, _ => ai_ck_133
  | 134, _ => ai_ck_134
  | 135, _ => ai_ck_135
  | 136, _ => ai_ck_136
  | 137, _ => ai_ck_137
  | 138, _ => ai_ck_138
  | 139, _ => ai_ck_139
  | 140, _ => ai_ck_140
  | 141, _ => ai_ck_141
  | 142, _ => ai_ck_142
  | 143, _ => ai_ck_143
  | 144, _ => ai_ck_144
  | 145, _ => ai_ck_145
  | 146, _ => ai_ck_146
  | 147, _ => ai_ck_147
  | 148, _ => ai_ck_148
  | 149, _ => ai_ck_149
  | 150, _ => ai_ck_150
  | 151, _ => ai_ck_151
  | 152, _ => ai_ck_152
  | 153, _ => ai_ck_153
  | 154, _ => ai_ck_154
  | 155, _ => ai_ck_155
  | 156, _ => ai_ck_156
  | 157, _ => ai_ck_157
  | 158, _ => ai_ck_158
  | 159, _ => ai_ck_159
  | 160, _ => ai_ck_160
  | 161, _ => ai_ck_161
  | 162, _ => ai_ck_162
  | 163, _ => ai_ck_163
  | 164, _ => ai_ck_164
  | 165, _ => ai_ck_165
  | 166, _ => ai_ck_166
  | 167, _ => ai_ck_167
  | 168, _ => ai_ck_168
  | 169, _ => ai_ck_169
  | 170, _ => ai_ck_170
  | 171, _ => ai_ck_171
  | 172, _ => ai_ck_172
  | 173, _ => ai_ck_173
  | 174, _ => ai_ck_174
  | 175, _ => ai_ck_175
  | 176, _ => ai_ck_176
  | 177, _ => ai_ck_177
  | 178, _ => ai_ck_178
  | 179, _ => ai_ck_179
  | 180, _ => ai_ck_180
  | 181, _ => ai_ck_181
  | 182, _ => ai_ck_182
  | 183, _ => ai_ck_183
  | 184, _ => ai_ck_184
  | 185, _ => ai_ck_185
  | 186, _ => ai_ck_186
  | 187, _ => ai_ck_187
  | 188, _ => ai_ck_188
  | 189, _ => ai_ck_189
  | 190, _ => ai_ck_190
  | 191, _ => ai_ck_191
  | 192, _ => ai_ck_192
  | 193, _ => ai_ck_193
  | 194, _ => ai_ck_194
  | 195, _ => ai_ck_195
  | 196, _ => ai_ck_196
  | 197, _ => ai_ck_197
  | 198, _ => ai_ck_198
  | 199, _ => ai_ck_199
  | 200, _ => ai_ck_200
  | 201, _ => ai_ck_201
  | 202, _ => ai_ck_202
  | 203, _ => ai_ck_203
  | 204, _ => ai_ck_204
  | 205, _ => ai_ck_205
  | 206, _ => ai_ck_206
  | 207, _ => ai_ck_207
  | 208, _ => ai_ck_208
  | 209, _ => ai_ck_209
  | 210, _ => ai_ck_210
  | 211, _ => ai_ck_211
  | 212, _ => ai_ck_212
  | 213, _ => ai_ck_213
  | 214, _ => ai_ck_214
  | 215, _ => ai_ck_215
  | n + 216, h => absurd h (by omega)
