theorem wfP_e0 {p q : Prop} (h : wfP (p ∧ q)) : p ∧ wfP q := h
theorem wfP_e1 {α : Type} {A B : α → Prop} (h : wfP (∃ x, A x ∧ B x)) : ∃ x, A x ∧ wfP (B x) := h
theorem wfP_e2 {α β : Type} {A B : α → β → Prop} (h : wfP (∃ x, ∃ y, A x y ∧ B x y)) : ∃ x y, A x y ∧ wfP (B x y) := h

def im_karrive (i0 : Nat) (p1 : Int32) (q2 : Nat) : List (Nat × Nat × Nat) := [(0, 0, 0), (1, 0, 0), (2, 0, 0), (32, 0, 0), (33, 0, 0), (34, 0, 0), (35, 0, 0), (36, 0, 0), (37, 0, 0), (38, 0, 0), (39, 0, 0), (40, 0, 0), (41, 0, 0), (42, 0, 0), (43, 0, 0), (44, 0, 0), (45, 0, 0), (46, 0, 0), (47, 0, 0), (48, 0, 0), (49, 0, 0), (67, 0, 0), (108, 0, 0), (109, q2, 1), (111, 0, 0), (135, 0, 0), (136, 0, 0), (164, 0, 0), (165, 0, 0), (166, 0, 0), (167, 0, 0), (168, 0, 0), (169, 0, 0), (170, 0, 0), (171, 0, 0), (172, 0, 0), (173, 0, 0), (174, 0, 0), (175, 0, 0), (176, 0, 0), (177, 0, 0), (178, 0, 0), (179, 0, 0), (180, 0, 0), (197, 0, 0), (198, 0, 0), (225, q2, 1), (226, q2, 1), (227, q2, 1), (228, q2, 1), (229, q2, 1), (230, q2, 1), (231, q2, 1), (232, q2, 1), (233, q2, 1), (234, q2, 1), (235, q2, 1), (288, 0, 1), (289, 0, 1), (290, 0, 1), (291, 0, 1), (292, 0, 1), (293, 0, 1), (294, 0, 1), (295, 0, 1), (296, 0, 1), (323, 0, 0), (384, 0, 0), (385, 0, 0), (386, 0, 0), (421, 0, 0), (422, 0, 0), (512, 0, 0), (544, 0, 0), (576, 0, 0), (768, 0, 0), (800, q2, 8192), (832, 0, 0), (864, 0, 0), (928, 0, 0), (960, 0, 0), (992, 0, 0), (1024, 0, 0), (1056, 0, 0), (1088, 0, 8192), (1248, 0, 0), (1280, 0, 0), (1344, 0, 0), (1536, 0, 0), (1728, 0, 0), (1729, 0, 0)]
def po_karrive (Z : cZ) (i0 : Nat) (p1 : Int32) (q2 : Nat) (g : mSt) (r : Int32) (Z1 : cZ) (g1 : mSt) : Prop := mFi (im_karrive i0 p1 q2) g g1 ∧ mFr [0, 1, 2, 32, 33, 34, 35, 36, 37, 38, 39, 40, 41, 42, 43, 44, 45, 46, 47, 48, 49, 67, 108, 109, 111, 135, 136, 164, 165, 166, 167, 168, 169, 170, 171, 172, 173, 174, 175, 176, 177, 178, 179, 180, 197, 198, 225, 226, 227, 228, 229, 230, 231, 232, 233, 234, 235, 288, 289, 290, 291, 292, 293, 294, 295, 296, 323, 384, 385, 386, 421, 422, 512, 544, 576, 768, 800, 832, 864, 928, 960, 992, 1024, 1056, 1088, 1248, 1280, 1344, 1536, 1728, 1729] g g1 ∧ cJ Z1 g1 ∧ True
def wp_karrive (TC TS : Nat) (Z0 : cZ) (i0 : Nat) (p1 : Int32) (q2 : Nat) (g : mSt) (Φ : Int32 → cZ → mSt → Prop) : Prop :=
  ∀ Z : cZ, Z = Z0 → ∀ (v1 : Int32), v1 = p1 - p1 / (2 : Int32) * (2 : Int32) → rg (0) (1) v1 → v1.toInt = p1.toInt % 2 → ((v1.toInt ≠ 0) → ∀ (v7 : Int32), v7 = p1 / (2 : Int32) → rg (0) (3) v7 → v7.toInt = p1.toInt / 2 → ((v7.toInt.toNat < Z.n) → ∃ P14 : Int32 → Int32 → cZ → mSt → Prop, (∀ (a37_4_12 a37_5_13 : Int32) (Z : cZ) (g14 : mSt), mFr [0, 1, 2, 32, 33, 34, 35, 36, 37, 38, 39, 40, 41, 42, 43, 44, 45, 46, 47, 48, 49, 67, 108, 109, 111, 135, 136, 164, 165, 166, 167, 168, 169, 170, 171, 172, 173, 174, 175, 176, 177, 178, 179, 180, 197, 198, 225, 226, 227, 228, 229, 230, 231, 232, 233, 234, 235, 288, 289, 290, 291, 292, 293, 294, 295, 296, 323, 384, 385, 386, 421, 422, 512, 544, 576, 768, 800, 832, 864, 928, 960, 992, 1024, 1056, 1088, 1248, 1280, 1344, 1536, 1728, 1729] g g14 → mFi (im_karrive i0 p1 q2) g g14 → cJ Z g14 → Z.n = Z0.n → rg (-2147483648) (2147483647) a37_4_12 → rg (0) (212) a37_5_13 → P14 a37_4_12 a37_5_13 Z g14 → ((212 ≤ a37_5_13.toInt) → Φ 0 Z g14) ∧ ((a37_5_13.toInt < 212) → ∀ (v21 : Int32), v21 = g14 101 q2 → rg (0) (212) v21 → ((v21.toInt ≤ a37_4_12.toInt) → Φ 0 Z g14) ∧ ((a37_4_12.toInt < v21.toInt) → wp_ktake Z q2 q2 a37_4_12 v21 g14 (fun (v29 : Int32) (g28 : mSt) => po_ktake Z q2 q2 a37_4_12 v21 g14 v29 g28 → ∀ (v30 : Int32), v30 = a37_4_12 + v29 → rg (-2147483648) (2147483647) v30 → ∀ (v31 : Int32), v31 = g28 235 q2 → rg (0) (1) v31 → ((v31.toInt = 0) → ∀ (v35 : Int32), v35 = a37_5_13 + (1 : Int32) → rg (1) (212) v35 → v35.toInt = a37_5_13.toInt + 1 → P14 v30 v35 Z g28) ∧ ((v31.toInt ≠ 0) → (Z.w 2 + 0 ≤ 1000000 ∧ Z.w 0 + 2 ≤ TC ∧ Z.w 1 + (243) ≤ TS) ∧ wp_kcellCame Z i0 p1 q2 g28 (fun (v39 : Int32) (Z_38 : cZ) (g38 : mSt) => po_kcellCame Z i0 p1 q2 g28 v39 Z_38 g38 → cZg Z Z_38 2 (243) → ∀ Z : cZ, Z = Z_38 → ((v39.toInt ≠ 0) → ∀ (v47 : Int32), v47 = g38 2 q2 → rg (-2147483648) (2147483647) v47 → ∀ (v48 : Int32), v48 = g38 362 i0 → rg (-2147483648) (2147483647) v48 → wp_kunitCame Z v7.toInt.toNat q2 v47 v48 g38 (fun (v50 : Int32) (g49 : mSt) => po_kunitCame Z v7.toInt.toNat q2 v47 v48 g38 v50 g49 → ∃ P51 : cZ → mSt → Prop, (∀ (Z : cZ) (g51 : mSt), mFr [36, 40, 41, 42, 44, 45, 46, 48, 67, 108, 111, 164, 173, 176, 177, 178, 198, 544, 576, 768, 832, 864] g49 g51 → mFi (im_karrive i0 p1 q2) g49 g51 → cJ Z g51 → Z.n = Z0.n → P51 Z g51 → wp_ktakeNext Z v7.toInt.toNat 0 g51 (fun (v58 : Int32) (g57 : mSt) => po_ktakeNext Z v7.toInt.toNat 0 g51 v58 g57 → ∃ P62 : Int32 → Int32 → cZ → mSt → Prop, (∀ (a178_7_60 a178_8_61 : Int32) (Z : cZ) (g62 : mSt), mFr [32, 33, 34, 35, 36, 37, 38, 39, 40, 41, 42, 43, 44, 45, 46, 47, 48, 49, 135, 170, 171, 198, 288, 289, 290, 291, 292, 293, 294, 295, 296, 323, 384, 385, 386, 832, 864, 1088, 1280, 1344, 1536, 1728, 1729] g57 g62 → mFi (im_karrive i0 p1 q2) g57 g62 → cJ Z g62 → Z.n = Z0.n → rg (0) (60) a178_7_60 → rg (0) (8) a178_8_61 → P62 a178_7_60 a178_8_61 Z g62 → ((8 ≤ a178_8_61.toInt) → ∀ (v68 : Int32), v68 = a37_5_13 + (1 : Int32) → rg (1) (212) v68 → v68.toInt = a37_5_13.toInt + 1 → P14 v30 v68 Z g62) ∧ ((a178_8_61.toInt < 8) → ((a178_7_60.toInt ≤ 0) → ∀ (v72 : Int32), v72 = a37_5_13 + (1 : Int32) → rg (1) (212) v72 → v72.toInt = a37_5_13.toInt + 1 → P14 v30 v72 Z g62) ∧ ((0 < a178_7_60.toInt) → ∀ (v76 : Int32), v76 = p1 - p1 / (2 : Int32) * (2 : Int32) → rg (0) (1) v76 → v76.toInt = p1.toInt % 2 → ((v76.toInt ≠ 1) → wp_ksread Z 0 0 a178_7_60 (0 : Int32) g62 (fun (v82 : Int32) (g81 : mSt) => po_ksread Z 0 0 a178_7_60 (0 : Int32) g62 v82 g81 → ∃ P84 : cZ → mSt → Prop, (∀ (Z : cZ) (g84 : mSt), mFr [32, 33, 34, 35, 36, 37, 38, 39, 40, 41, 42, 43, 44, 45, 46, 47, 48, 49, 135, 198, 323, 384, 385, 386, 832, 864, 1536, 1728, 1729] g81 g84 → mFi (im_karrive i0 p1 q2) g81 g84 → cJ Z g84 → Z.n = Z0.n → P84 Z g84 → wp_ktakeNext Z v7.toInt.toNat 0 g84 (fun (v91 : Int32) (g90 : mSt) => po_ktakeNext Z v7.toInt.toNat 0 g84 v91 g90 → ∀ (v93 : Int32), v93 = a178_8_61 + (1 : Int32) → rg (1) (8) v93 → v93.toInt = a178_8_61.toInt + 1 → P62 v91 v93 Z g90)) ∧ ((v82.toInt = 0) → P84 Z g81) ∧ ((v82.toInt ≠ 0) → ∀ (v99 : Int32), v99 = g81 362 i0 → rg (-2147483648) (2147483647) v99 → ∃ n100_0 : Nat, (Z.w 2 + 1 ≤ 1000000 ∧ Z.w 0 + 2 ≤ TC ∧ Z.w 1 + (18 + n100_0) ≤ TS) ∧ wp_kcame_4 n100_0 Z v7.toInt.toNat 0 v99 g81 (fun (_ : Int32) (Z_100 : cZ) (g100 : mSt) => po_kcame_4 Z v7.toInt.toNat 0 v99 g81 0 Z_100 g100 → cZg Z Z_100 2 (18 + n100_0) → ∀ Z : cZ, Z = Z_100 → P84 Z g100)))) ∧ ((v76.toInt = 1) → wp_ksread Z 0 0 a178_7_60 (1 : Int32) g62 (fun (v104 : Int32) (g103 : mSt) => po_ksread Z 0 0 a178_7_60 (1 : Int32) g62 v104 g103 → ∃ P106 : cZ → mSt → Prop, (∀ (Z : cZ) (g106 : mSt), mFr [32, 33, 34, 35, 36, 37, 38, 39, 40, 41, 42, 43, 44, 45, 46, 47, 48, 49, 135, 198, 323, 384, 385, 386, 832, 864, 1536, 1728, 1729] g103 g106 → mFi (im_karrive i0 p1 q2) g103 g106 → cJ Z g106 → Z.n = Z0.n → P106 Z g106 → wp_ktakeNext Z v7.toInt.toNat 0 g106 (fun (v113 : Int32) (g112 : mSt) => po_ktakeNext Z v7.toInt.toNat 0 g106 v113 g112 → ∀ (v115 : Int32), v115 = a178_8_61 + (1 : Int32) → rg (1) (8) v115 → v115.toInt = a178_8_61.toInt + 1 → P62 v113 v115 Z g112)) ∧ ((v104.toInt = 0) → P106 Z g103) ∧ ((v104.toInt ≠ 0) → ∀ (v121 : Int32), v121 = g103 362 i0 → rg (-2147483648) (2147483647) v121 → ∃ n122_0 : Nat, (Z.w 2 + 1 ≤ 1000000 ∧ Z.w 0 + 2 ≤ TC ∧ Z.w 1 + (18 + n122_0) ≤ TS) ∧ wp_kcame_4 n122_0 Z v7.toInt.toNat 0 v121 g103 (fun (_ : Int32) (Z_122 : cZ) (g122 : mSt) => po_kcame_4 Z v7.toInt.toNat 0 v121 g103 0 Z_122 g122 → cZg Z Z_122 2 (18 + n122_0) → ∀ Z : cZ, Z = Z_122 → P106 Z g122))))))) ∧ P62 v58 (0 : Int32) Z g57)) ∧ ((v50.toInt ≠ 1) → ((v50.toInt ≠ 2) → P51 Z g49) ∧ ((v50.toInt = 2) → wp_kask Z v7.toInt.toNat (3 : Int32) (9 : Int32) v48 g49 (fun (_ : Int32) (g132 : mSt) => po_kask Z v7.toInt.toNat (3 : Int32) (9 : Int32) v48 g49 0 g132 → P51 Z g132))) ∧ ((v50.toInt = 1) → wp_kallOver_4 Z v7.toInt.toNat v48 g49 (fun (_ : Int32) (g136 : mSt) => po_kallOver_4 Z v7.toInt.toNat v48 g49 0 g136 → P51 Z g136)))) ∧ ((v39.toInt = 0) → ∀ (v139 : Int32), v139 = a37_5_13 + (1 : Int32) → rg (1) (212) v139 → v139.toInt = a37_5_13.toInt + 1 → P14 v30 v139 Z g38))))))) ∧ P14 (0 : Int32) (0 : Int32) Z g) ∧ ((Z.n ≤ v7.toInt.toNat) → True)) ∧ ((v1.toInt = 0) → ∀ (v145 : Int32), v145.toInt = (Z.n : Int) → rg (2) (4) v145 → ∀ (v146 : Int32), v146 = p1 / (2 : Int32) → rg (0) (3) v146 → v146.toInt = p1.toInt / 2 → ∀ (v148 : Int32), v148 = v145 + v146 → rg (2) (7) v148 → v148.toInt = v145.toInt + v146.toInt → ((v148.toInt.toNat < Z.n) → True) ∧ ((Z.n ≤ v148.toInt.toNat) → ∀ (sx152 : Nat), sx152 = (v148.toInt.toNat - Z.n) → ∃ P156 : Int32 → Int32 → cZ → mSt → Prop, (∀ (a37_4_154 a37_5_155 : Int32) (Z : cZ) (g156 : mSt), mFr [0, 1, 2, 32, 33, 34, 35, 36, 37, 38, 39, 40, 41, 42, 43, 44, 45, 46, 47, 48, 49, 67, 108, 109, 111, 135, 136, 164, 165, 166, 167, 168, 169, 170, 171, 172, 173, 174, 175, 176, 177, 178, 179, 180, 197, 198, 225, 226, 227, 228, 229, 230, 231, 232, 233, 234, 235, 288, 289, 290, 291, 292, 293, 294, 295, 296, 323, 384, 385, 386, 421, 422, 512, 544, 576, 768, 800, 832, 864, 928, 960, 992, 1024, 1056, 1088, 1248, 1280, 1344, 1536, 1728, 1729] g g156 → mFi (im_karrive i0 p1 q2) g g156 → cJ Z g156 → Z.n = Z0.n → rg (-2147483648) (2147483647) a37_4_154 → rg (0) (212) a37_5_155 → P156 a37_4_154 a37_5_155 Z g156 → ((212 ≤ a37_5_155.toInt) → Φ 0 Z g156) ∧ ((a37_5_155.toInt < 212) → ∀ (v163 : Int32), v163 = g156 101 q2 → rg (0) (212) v163 → ((v163.toInt ≤ a37_4_154.toInt) → Φ 0 Z g156) ∧ ((a37_4_154.toInt < v163.toInt) → wp_ktake Z q2 q2 a37_4_154 v163 g156 (fun (v171 : Int32) (g170 : mSt) => po_ktake Z q2 q2 a37_4_154 v163 g156 v171 g170 → ∀ (v172 : Int32), v172 = a37_4_154 + v171 → rg (-2147483648) (2147483647) v172 → ∀ (v173 : Int32), v173 = g170 235 q2 → rg (0) (1) v173 → ((v173.toInt = 0) → ∀ (v177 : Int32), v177 = a37_5_155 + (1 : Int32) → rg (1) (212) v177 → v177.toInt = a37_5_155.toInt + 1 → P156 v172 v177 Z g170) ∧ ((v173.toInt ≠ 0) → (Z.w 2 + 0 ≤ 1000000 ∧ Z.w 0 + 2 ≤ TC ∧ Z.w 1 + (243) ≤ TS) ∧ wp_kcellCame Z i0 p1 q2 g170 (fun (v181 : Int32) (Z_180 : cZ) (g180 : mSt) => po_kcellCame Z i0 p1 q2 g170 v181 Z_180 g180 → cZg Z Z_180 2 (243) → ∀ Z : cZ, Z = Z_180 → ((v181.toInt ≠ 0) → ∀ (v189 : Int32), v189 = g180 2 q2 → rg (-2147483648) (2147483647) v189 → ∀ (v190 : Int32), v190 = g180 362 i0 → rg (-2147483648) (2147483647) v190 → wp_kunitCame Z (Z.n + sx152) q2 v189 v190 g180 (fun (v192 : Int32) (g191 : mSt) => po_kunitCame Z (Z.n + sx152) q2 v189 v190 g180 v192 g191 → ∃ P193 : cZ → mSt → Prop, (∀ (Z : cZ) (g193 : mSt), mFr [36, 40, 41, 42, 44, 45, 46, 48, 67, 108, 111, 164, 173, 176, 177, 178, 198, 544, 576, 768, 832, 864] g191 g193 → mFi (im_karrive i0 p1 q2) g191 g193 → cJ Z g193 → Z.n = Z0.n → P193 Z g193 → wp_ktakeNext Z (Z.n + sx152) 0 g193 (fun (v200 : Int32) (g199 : mSt) => po_ktakeNext Z (Z.n + sx152) 0 g193 v200 g199 → ∃ P204 : Int32 → Int32 → cZ → mSt → Prop, (∀ (a178_7_202 a178_8_203 : Int32) (Z : cZ) (g204 : mSt), mFr [32, 33, 34, 35, 36, 37, 38, 39, 40, 41, 42, 43, 44, 45, 46, 47, 48, 49, 135, 170, 171, 198, 288, 289, 290, 291, 292, 293, 294, 295, 296, 323, 384, 385, 386, 832, 864, 1088, 1280, 1344, 1536, 1728, 1729] g199 g204 → mFi (im_karrive i0 p1 q2) g199 g204 → cJ Z g204 → Z.n = Z0.n → rg (0) (60) a178_7_202 → rg (0) (8) a178_8_203 → P204 a178_7_202 a178_8_203 Z g204 → ((8 ≤ a178_8_203.toInt) → ∀ (v210 : Int32), v210 = a37_5_155 + (1 : Int32) → rg (1) (212) v210 → v210.toInt = a37_5_155.toInt + 1 → P156 v172 v210 Z g204) ∧ ((a178_8_203.toInt < 8) → ((a178_7_202.toInt ≤ 0) → ∀ (v214 : Int32), v214 = a37_5_155 + (1 : Int32) → rg (1) (212) v214 → v214.toInt = a37_5_155.toInt + 1 → P156 v172 v214 Z g204) ∧ ((0 < a178_7_202.toInt) → ∀ (v218 : Int32), v218 = p1 - p1 / (2 : Int32) * (2 : Int32) → rg (0) (1) v218 → v218.toInt = p1.toInt % 2 → ((v218.toInt ≠ 1) → wp_ksread Z 0 0 a178_7_202 (0 : Int32) g204 (fun (v224 : Int32) (g223 : mSt) => po_ksread Z 0 0 a178_7_202 (0 : Int32) g204 v224 g223 → ∃ P226 : cZ → mSt → Prop, (∀ (Z : cZ) (g226 : mSt), mFr [32, 33, 34, 35, 36, 37, 38, 39, 40, 41, 42, 43, 44, 45, 46, 47, 48, 49, 135, 198, 323, 384, 385, 386, 832, 864, 1536, 1728, 1729] g223 g226 → mFi (im_karrive i0 p1 q2) g223 g226 → cJ Z g226 → Z.n = Z0.n → P226 Z g226 → wp_ktakeNext Z (Z.n + sx152) 0 g226 (fun (v233 : Int32) (g232 : mSt) => po_ktakeNext Z (Z.n + sx152) 0 g226 v233 g232 → ∀ (v235 : Int32), v235 = a178_8_203 + (1 : Int32) → rg (1) (8) v235 → v235.toInt = a178_8_203.toInt + 1 → P204 v233 v235 Z g232)) ∧ ((v224.toInt = 0) → P226 Z g223) ∧ ((v224.toInt ≠ 0) → ∀ (v241 : Int32), v241 = g223 362 i0 → rg (-2147483648) (2147483647) v241 → ∃ n242_0 : Nat, ∃ n242_1 : Nat, (Z.w 2 + 2 ≤ 1000000 ∧ Z.w 0 + 4 ≤ TC ∧ Z.w 1 + (36 + n242_0 + n242_1) ≤ TS) ∧ wp_kcame_10 n242_0 n242_1 Z sx152 0 v241 g223 (fun (_ : Int32) (Z_242 : cZ) (g242 : mSt) => po_kcame_10 Z sx152 0 v241 g223 0 Z_242 g242 → cZg Z Z_242 4 (36 + n242_0 + n242_1) → ∀ Z : cZ, Z = Z_242 → P226 Z g242)))) ∧ ((v218.toInt = 1) → wp_ksread Z 0 0 a178_7_202 (1 : Int32) g204 (fun (v246 : Int32) (g245 : mSt) => po_ksread Z 0 0 a178_7_202 (1 : Int32) g204 v246 g245 → ∃ P248 : cZ → mSt → Prop, (∀ (Z : cZ) (g248 : mSt), mFr [32, 33, 34, 35, 36, 37, 38, 39, 40, 41, 42, 43, 44, 45, 46, 47, 48, 49, 135, 198, 323, 384, 385, 386, 832, 864, 1536, 1728, 1729] g245 g248 → mFi (im_karrive i0 p1 q2) g245 g248 → cJ Z g248 → Z.n = Z0.n → P248 Z g248 → wp_ktakeNext Z (Z.n + sx152) 0 g248 (fun (v255 : Int32) (g254 : mSt) => po_ktakeNext Z (Z.n + sx152) 0 g248 v255 g254 → ∀ (v257 : Int32), v257 = a178_8_203 + (1 : Int32) → rg (1) (8) v257 → v257.toInt = a178_8_203.toInt + 1 → P204 v255 v257 Z g254)) ∧ ((v246.toInt = 0) → P248 Z g245) ∧ ((v246.toInt ≠ 0) → ∀ (v263 : Int32), v263 = g245 362 i0 → rg (-2147483648) (2147483647) v263 → ∃ n264_0 : Nat, ∃ n264_1 : Nat, (Z.w 2 + 2 ≤ 1000000 ∧ Z.w 0 + 4 ≤ TC ∧ Z.w 1 + (36 + n264_0 + n264_1) ≤ TS) ∧ wp_kcame_10 n264_0 n264_1 Z sx152 0 v263 g245 (fun (_ : Int32) (Z_264 : cZ) (g264 : mSt) => po_kcame_10 Z sx152 0 v263 g245 0 Z_264 g264 → cZg Z Z_264 4 (36 + n264_0 + n264_1) → ∀ Z : cZ, Z = Z_264 → P248 Z g264))))))) ∧ P204 v200 (0 : Int32) Z g199)) ∧ ((v192.toInt ≠ 1) → ((v192.toInt ≠ 2) → P193 Z g191) ∧ ((v192.toInt = 2) → wp_kask Z (Z.n + sx152) (3 : Int32) (9 : Int32) v190 g191 (fun (_ : Int32) (g274 : mSt) => po_kask Z (Z.n + sx152) (3 : Int32) (9 : Int32) v190 g191 0 g274 → P193 Z g274))) ∧ ((v192.toInt = 1) → wp_kallOver_10 Z sx152 v190 g191 (fun (_ : Int32) (g278 : mSt) => po_kallOver_10 Z sx152 v190 g191 0 g278 → P193 Z g278)))) ∧ ((v181.toInt = 0) → ∀ (v281 : Int32), v281 = a37_5_155 + (1 : Int32) → rg (1) (212) v281 → v281.toInt = a37_5_155.toInt + 1 → P156 v172 v281 Z g180))))))) ∧ P156 (0 : Int32) (0 : Int32) Z g))
def rm_karrive (a b : Nat) : Room := { frames := 11, cells := a, slots := b, locals := 253 }
theorem hd_karrive : yX11_arrive.cls = cRn 11 ∧ yX11_arrive.cls ≠ "java/lang/invoke/MethodHandle" ∧ yX11_arrive.cls ≠ "java/lang/invoke/VarHandle" ∧ (parseMethodDescriptor yX11_arrive.desc).map (fun d => d.parameters.length) = some 2 := by decide +kernel
set_option maxHeartbeats 8000000 in
set_option maxRecDepth 100000 in
theorem v_karrive {p : Program} {l : Launch} {e : Env} {s : State} {m : MethodId} {args : Array Value} {below : List Frame} {meth : Method} {c : Code} {H : Heap} {locs : List Loc} {Q : State → Prop} {ls : Array Slot} {G : cG} {Z0 : cZ} {A : Nat → Prop} {g : mSt} {H0 : Heap} {X : Int} {a b TC TS : Nat} (xa : cXA p c cX11_arrive s args (wk (Cond.code yX11_arrive cX11_arrive 9 none)) m G Z0 A RX11 H0) (hml : c.maxLocals = 9) (L : cL G Z0 A H0 X g H locs) (hTC : Z0.w 0 + a = TC) (hTS : Z0.w 1 + b = TS) (hX : 0 ≤ X ∧ (X + 2120) ≤ 2000000000) (i0 : Nat) (p1 : Int32) (q2 : Nat) (hJ : cJ Z0 g) (hal0 : Z0.al 11 i0) (rp1 : rg (0) (7) p1) (hq2 : Z0.al 3 q2) (hd : p1.toInt < 2 * (Z0.n : Int) ∧ q2 < 2 * Z0.n) {Φ : Int32 → cZ → mSt → Prop} (hW : wfP (wp_karrive TC TS Z0 i0 p1 q2 g Φ)) (hl : lv_has ls 9 [(0, .ref (Z0.ad 11 i0)), (1, .int p1), (2, .ref (Z0.ad 3 q2))]) (hQ : ∀ (pc' : Nat) (ls' : Array Slot) (Z1 : cZ) (g1 : mSt) (H1 : Heap) (locs1 : List Loc) (c1 l1 : Nat), decode cX11_arrive pc' = .ok (.return_, 1) → cXA p c cX11_arrive s args (wk (Cond.code yX11_arrive cX11_arrive 9 none)) m G Z1 A RX11 H0 → cL G Z1 A H0 (X + 2120) g1 H1 locs1 → cZl Z0 Z1 c1 l1 → (c1 ≤ a ∧ l1 ≤ b) → (wfP (Φ 0 Z1 g1) ∧ mFi (im_karrive i0 p1 q2) g g1 ∧ (mFr [0, 1, 2, 32, 33, 34, 35, 36, 37, 38, 39, 40, 41, 42, 43, 44, 45, 46, 47, 48, 49, 67, 108, 109, 111, 135, 136, 164, 165, 166, 167, 168, 169, 170, 171, 172, 173, 174, 175, 176, 177, 178, 179, 180, 197, 198, 225, 226, 227, 228, 229, 230, 231, 232, 233, 234, 235, 288, 289, 290, 291, 292, 293, 294, 295, 296, 323, 384, 385, 386, 421, 422, 512, 544, 576, 768, 800, 832, 864, 928, 960, 992, 1024, 1056, 1088, 1248, 1280, 1344, 1536, 1728, 1729] g g1 ∧ cJ Z1 g1 ∧ True)) → W p l e (rm_karrive a b) s m args below meth c H1 locs1 c1 l1 Q (F0 m pc' ls' [])) : W p l e (rm_karrive a b) s m args below meth c H locs 0 0 Q (F0 m 0 ls []) := by
  obtain ⟨Z, eZ⟩ : ∃ Z : cZ, Z = Z0 := ⟨_, rfl⟩
  replace hW := wfP_i (wfP_a hW Z) eZ
  have hzl : cZl Z0 Z 0 0 := by rw [eZ]; exact cZl.rf
  rw [← eZ] at xa L hJ hl
  have hcs : 0 ≤ a ∧ 0 ≤ b := ⟨Nat.zero_le _, Nat.zero_le _⟩
  have x := xa.1
  have hx := x.1
  have hb := x.2.1
  have hz := x.2.2.2.2.2.2.2.1
  have hzn := hz.1
  have hZn0 := hzl.1
  have ha_0 := hzl.2.1 11 i0 hal0
  have ha_2 := hzl.2.1 3 q2 hq2
  have up1 : (0 : Int) ≤ p1.toInt ∧ p1.toInt ≤ 7 := rp1
  refine lv_iload_n hx hb dX11_arrive_0 rfl (lv_at hl 1 rfl) ?_
  refine lv_iconst (v := 2) hx hb dX11_arrive_1 (by decide) ?_
  refine lv_irem hx hb dX11_arrive_2 (by decide) ?_
  refine lv_topi (fun v1 ev1 => ?_)
  have rv1 : rg (0) (1) v1 := (rg_rem ev1 rp1 kc_2 rfl).1
  replace hW := (wfP_i (wfP_i (wfP_i (wfP_a hW v1) ev1) rv1) ((rg_rem ev1 rp1 kc_2 rfl).2))
  have tv1 := (rg_rem ev1 rp1 kc_2 rfl).2
  have y2 : (2 : Int32).toInt = 2 := by decide
  have uv1 : (0 : Int) ≤ v1.toInt ∧ v1.toInt ≤ 1 := rv1
  refine lv_if_ne (tgt := 22) hx hb dX11_arrive_3 (by decide) (fun c3_3 => ?_) (fun c3_3 => ?_)
  · skip
    replace hW := wfP_i (wfP_l hW) (i_ne c3_3 rfl (rg_i kc_0))
    have ic3_3 : v1.toInt ≠ (0 : Int32).toInt := fun z => c3_3 (Int32.toInt_inj.mp z)
    have y4 : (0 : Int32).toInt = 0 := by decide
    have q5 : rg (1) (1) v1 := rg_neL c3_3 rv1 kc_0
    have uq5 : (1 : Int) ≤ v1.toInt ∧ v1.toInt ≤ 1 := q5
    refine lv_aload_n hx hb dX11_arrive_22 rfl (lv_at hl 0 rfl) ?_
    have al6 : Z.al 52 0 := hz.2 52 0 (show 0 < 1 from (by omega))
    refine c_getr (a := Z.ad 52 0) x L 11 i0 4 ha_0 rfl rfl (wk_in kf_X11_71) dX11_arrive_23 ?_
    refine lv_iload_n hx hb dX11_arrive_26 rfl (lv_at hl 1 rfl) ?_
    refine lv_iconst (v := 2) hx hb dX11_arrive_27 (by decide) ?_
    refine lv_idiv hx hb dX11_arrive_28 (by decide) ?_
    refine lv_topi (fun v7 ev7 => ?_)
    have rv7 : rg (0) (3) v7 := (rg_div ev7 rp1 kc_2 rfl).1
    replace hW := (wfP_i (wfP_i (wfP_i (wfP_a hW v7) ev7) rv7) ((rg_div ev7 rp1 kc_2 rfl).2))
    have tv7 := (rg_div ev7 rp1 kc_2 rfl).2
    have y8 : (2 : Int32).toInt = 2 := by decide
    have uv7 : (0 : Int) ≤ v7.toInt ∧ v7.toInt ≤ 3 := rv7
    rcases Nat.lt_or_ge v7.toInt.toNat Z.n with hc9 | hc9
    · skip
      replace hW := wfP_i (wfP_l hW) hc9
      have al10 : Z.al 4 v7.toInt.toNat := hz.2 4 v7.toInt.toNat (show v7.toInt.toNat < Z.n from (by omega))
      refine c_ldr (a := Z.ad 4 v7.toInt.toNat) x L 52 0 al6 rfl (by omega) (show v7.toInt < (((2 * Z.n) : Nat) : Int) from (by omega)) (by show some (cSd Z v7.toInt.toNat) = _; unfold cSd; rw [if_pos hc9]) dX11_arrive_29 ?_
      refine lv_astore_n (lv' := [(3, .ref (Z.ad 4 v7.toInt.toNat)), (0, .ref (Z.ad 11 i0)), (1, .int p1), (2, .ref (Z.ad 3 q2))]) hx hb dX11_arrive_30 rfl hl (by decide) rfl (fun ls hl => ?_)
      refine lv_iconst (v := 0) hx hb dX11_arrive_31 (by decide) ?_
      refine lv_istore (lv' := [(4, .int (0 : Int32)), (3, .ref (Z.ad 4 v7.toInt.toNat)), (0, .ref (Z.ad 11 i0)), (1, .int p1), (2, .ref (Z.ad 3 q2))]) hx hb dX11_arrive_32 hl (by decide) rfl (fun ls hl => ?_)
      refine lv_iconst (v := 0) hx hb dX11_arrive_34 (by decide) ?_
      refine lv_istore (lv' := [(5, .int (0 : Int32)), (4, .int (0 : Int32)), (3, .ref (Z.ad 4 v7.toInt.toNat)), (0, .ref (Z.ad 11 i0)), (1, .int p1), (2, .ref (Z.ad 3 q2))]) hx hb dX11_arrive_35 hl (by decide) rfl (fun ls hl => ?_)
      obtain ⟨P14, hP14, hW⟩ := wfP_ex hW
      have j37_14 : ∀ (n : Nat) (a37_4_12 a37_5_13 : Int32) (Z : cZ) (g14 : mSt) (H14 : Heap) (k14 : List Loc) (ls : Array Slot) (c14 l14 : Nat), mFr [0, 1, 2, 32, 33, 34, 35, 36, 37, 38, 39, 40, 41, 42, 43, 44, 45, 46, 47, 48, 49, 67, 108, 109, 111, 135, 136, 164, 165, 166, 167, 168, 169, 170, 171, 172, 173, 174, 175, 176, 177, 178, 179, 180, 197, 198, 225, 226, 227, 228, 229, 230, 231, 232, 233, 234, 235, 288, 289, 290, 291, 292, 293, 294, 295, 296, 323, 384, 385, 386, 421, 422, 512, 544, 576, 768, 800, 832, 864, 928, 960, 992, 1024, 1056, 1088, 1248, 1280, 1344, 1536, 1728, 1729] g g14 → mFi (im_karrive i0 p1 q2) g g14 → cXA p c cX11_arrive s args (wk (Cond.code yX11_arrive cX11_arrive 9 none)) m G Z A RX11 H0 → cL G Z A H0 (X + (10 * a37_5_13.toInt)) g14 H14 k14 → cZl Z0 Z c14 l14 → (c14 ≤ a ∧ l14 ≤ b) → cJ Z g14 → rg (-2147483648) (2147483647) a37_4_12 → rg (0) (212) a37_5_13 → wfP (P14 a37_4_12 a37_5_13 Z g14) → lv_has ls 9 [(0, .ref (Z.ad 11 i0)), (1, .int p1), (2, .ref (Z.ad 3 q2)), (3, .ref (Z.ad 4 v7.toInt.toNat)), (4, .int a37_4_12), (5, .int a37_5_13)] → ((212 : Int) - a37_5_13.toInt).toNat = n → W p l e (rm_karrive a b) s m args below meth c H14 k14 c14 l14 Q (F0 m 37 ls []) := by
        intro n
        induction n using Nat.strongRecOn with
        | _ n ih14 =>
          intro a37_4_12 a37_5_13 Z g14 H14 k14 ls c14 l14 hF14 hI14 xa L14 hzl hcs hJ14 ra37_4_12 ra37_5_13 hW hl hn14
          subst hn14
          have x := xa.1
          have hz := x.2.2.2.2.2.2.2.1
          have hzn := hz.1
          have hZn14 := hzl.1
          replace hW := wfP_i (wfP_i (wfP_i (wfP_i (wfP_i (wfP_i (wfP_i (wfP_a (wfP_a (wfP_a (wfP_a hP14 a37_4_12) a37_5_13) Z) g14) hF14) hI14) hJ14) hzl.1) ra37_4_12) ra37_5_13) hW
          have ua37_4_12 : (-2147483648 : Int) ≤ a37_4_12.toInt ∧ a37_4_12.toInt ≤ 2147483647 := ra37_4_12
          have ua37_5_13 : (0 : Int) ≤ a37_5_13.toInt ∧ a37_5_13.toInt ≤ 212 := ra37_5_13
          have al15 := hzl.2.1 11 i0 hal0
          have al16 := hzl.2.1 3 q2 hq2
          have al17 : Z.al 4 v7.toInt.toNat := hz.2 4 v7.toInt.toNat (show v7.toInt.toNat < Z.n from (by omega))
          refine lv_iload hx hb dX11_arrive_37 (lv_at hl 5 rfl) ?_
          refine lv_sipush (v := 212) hx hb dX11_arrive_39 (by decide) ?_
          refine lv_icmp_ge (tgt := 255) hx hb dX11_arrive_42 (by decide) (fun c42_18 => ?_) (fun c42_18 => ?_)
          · skip
            replace hW := wfP_i (wfP_l hW) (i_le c42_18 (rg_i kc_212) rfl)
            have ic42_18 := Int32.le_iff_toInt_le.mp c42_18
            have q19 : rg (212) (212) a37_5_13 := (rg_le c42_18 kc_212 ra37_5_13).2
            have uq19 : (212 : Int) ≤ a37_5_13.toInt ∧ a37_5_13.toInt ≤ 212 := q19
            exact hQ _ _ Z _ _ _ _ _ dX11_arrive_255 xa (cL.mono L14 (by omega)) hzl hcs ⟨hW, (mFi.tr mFi.rf hI14), (mFr.tr mFr.rf hF14 rfl), hJ14, trivial⟩
          · skip
            replace hW := wfP_i (wfP_r hW) (i_lt (rg_nle c42_18) rfl (rg_i kc_212))
            have ic42_18 := Int32.lt_iff_toInt_lt.mp (rg_nle c42_18)
            have q20 : rg (0) (211) a37_5_13 := (rg_lt (rg_nle c42_18) ra37_5_13 kc_212).1
            have uq20 : (0 : Int) ≤ a37_5_13.toInt ∧ a37_5_13.toInt ≤ 211 := q20
            refine lv_iload hx hb dX11_arrive_45 (lv_at hl 4 rfl) ?_
            refine lv_aload_n hx hb dX11_arrive_47 rfl (lv_at hl 2 rfl) ?_
            refine c_geti x L14 3 q2 5 101 al16 rfl rfl (wk_in kf_X11_116) dX11_arrive_48 (fun v21 ev21 wv21 => ?_)
            have rv21 : rg (0) (212) v21 := clj_101 wv21
            replace hW := (wfP_i (wfP_i (wfP_a hW v21) ev21) rv21)
            have uv21 : (0 : Int) ≤ v21.toInt ∧ v21.toInt ≤ 212 := rv21
            have sv21 : v21.toInt = (g 101 q2).toInt := congrArg Int32.toInt (ev21.trans (congrFun ((show mFr [0, 1, 2, 32, 33, 34, 35, 36, 37, 38, 39, 40, 41, 42, 43, 44, 45, 46, 47, 48, 49, 67, 108, 109, 111, 135, 136, 164, 165, 166, 167, 168, 169, 170, 171, 172, 173, 174, 175, 176, 177, 178, 179, 180, 197, 198, 225, 226, 227, 228, 229, 230, 231, 232, 233, 234, 235, 288, 289, 290, 291, 292, 293, 294, 295, 296, 323, 384, 385, 386, 421, 422, 512, 544, 576, 768, 800, 832, 864, 928, 960, 992, 1024, 1056, 1088, 1248, 1280, 1344, 1536, 1728, 1729] g g14 from (mFr.tr mFr.rf hF14 rfl)).at 101 rfl) _))
            refine lv_icmp_ge (tgt := 255) hx hb dX11_arrive_51 (by decide) (fun c51_22 => ?_) (fun c51_22 => ?_)
            · skip
              replace hW := wfP_i (wfP_l hW) (i_le c51_22 rfl rfl)
              have ic51_22 := Int32.le_iff_toInt_le.mp c51_22
              have q23 : rg (0) (2147483647) a37_4_12 := (rg_le c51_22 rv21 ra37_4_12).2
              have uq23 : (0 : Int) ≤ a37_4_12.toInt ∧ a37_4_12.toInt ≤ 2147483647 := q23
              exact hQ _ _ Z _ _ _ _ _ dX11_arrive_255 xa (cL.mono L14 (by omega)) hzl hcs ⟨hW, (mFi.tr mFi.rf hI14), (mFr.tr mFr.rf hF14 rfl), hJ14, trivial⟩
            · skip
              replace hW := wfP_i (wfP_r hW) (i_lt (rg_nle c51_22) rfl rfl)
              have ic51_22 := Int32.lt_iff_toInt_lt.mp (rg_nle c51_22)
              have q24 : rg (-2147483648) (211) a37_4_12 := (rg_lt (rg_nle c51_22) ra37_4_12 rv21).1
              have uq24 : (-2147483648 : Int) ≤ a37_4_12.toInt ∧ a37_4_12.toInt ≤ 211 := q24
              refine lv_iload hx hb dX11_arrive_54 (lv_at hl 4 rfl) ?_
              refine lv_aload_n hx hb dX11_arrive_56 rfl (lv_at hl 2 rfl) ?_
              have al25 : Z.al 7 q2 := hz.2 7 q2 (show q2 < 2 * Z.n from (by omega))
              refine c_getr (a := Z.ad 7 q2) x L14 3 q2 2 al16 rfl rfl (wk_in kf_X11_119) dX11_arrive_57 ?_
              refine lv_aload_n hx hb dX11_arrive_60 rfl (lv_at hl 2 rfl) ?_
              have al26 : Z.al 19 q2 := hz.2 19 q2 (show q2 < 2 * Z.n from (by omega))
              refine c_getr (a := Z.ad 19 q2) x L14 3 q2 4 al16 rfl rfl (wk_in kf_X11_123) dX11_arrive_61 ?_
              refine lv_iload hx hb dX11_arrive_64 (lv_at hl 4 rfl) ?_
              refine lv_aload_n hx hb dX11_arrive_66 rfl (lv_at hl 2 rfl) ?_
              refine c_geti x L14 3 q2 5 101 al16 rfl rfl (wk_in kf_X11_116) dX11_arrive_67 (fun v27 ev27 wv27 => ?_)
              refine m_top ((ev21).trans ev27.symm) ?_
              refine c_ci (As := [.ref (Z.ad 19 q2), .int a37_4_12, .int v21]) (rest := [.int a37_4_12]) x hml L14 7 q2 al25 rfl (d_ktake l (X + (10 * a37_5_13.toInt)) g14 q2 q2 a37_4_12 v21 ⟨by omega, by omega⟩ hJ14 (show q2 < 2 * Z.n from (by omega)) al26 hW) (wk_V kd_X7_take kl_X11_126 ki_X7_take ks_X7_X7_take kn_X7) rfl ⟨rfl, rfl⟩ hd_ktake ⟨Nat.le_of_ble_eq_true rfl, Nat.le_of_ble_eq_true rfl⟩ rfl hl.1 rfl (lv_room (Nat.le_of_ble_eq_true rfl)) dX11_arrive_70 (fun v29 g28 H28 k28 hp28 L28 => ?_) hcs
              obtain ⟨hW, hi28, hp28⟩ := hp28
              replace hW := wfP_i hW ⟨hi28, hp28⟩
              have rv29 : rg (-210) (48) v29 := hp28.2.1
              have uv29 : (-210 : Int) ≤ v29.toInt ∧ v29.toInt ≤ 48 := rv29
              refine lv_iadd hx hb dX11_arrive_73 ?_
              refine lv_topi (fun v30 ev30 => ?_)
              have rv30 : rg (-2147483648) (2147483647) v30 := rg_any v30
              replace hW := (wfP_i (wfP_i (wfP_a hW v30) ev30) rv30)
              have uv30 : (-2147483648 : Int) ≤ v30.toInt ∧ v30.toInt ≤ 2147483647 := rv30
              refine lv_istore (lv' := [(4, .int v30), (0, .ref (Z.ad 11 i0)), (1, .int p1), (2, .ref (Z.ad 3 q2)), (3, .ref (Z.ad 4 v7.toInt.toNat)), (5, .int a37_5_13)]) hx hb dX11_arrive_74 hl (by decide) rfl (fun ls hl => ?_)
              refine lv_aload_n hx hb dX11_arrive_76 rfl (lv_at hl 3 rfl) ?_
              refine c_getr (a := Z.ad 7 q2) x L28 3 q2 2 al16 rfl rfl (wk_in kf_X11_119) dX11_arrive_77 ?_
              refine c_geti x L28 7 q2 11 235 al25 rfl rfl (wk_in kf_X11_132) dX11_arrive_80 (fun v31 ev31 wv31 => ?_)
              have rv31 : rg (0) (1) v31 := clj_235 wv31
              replace hW := (wfP_i (wfP_i (wfP_a hW v31) ev31) rv31)
              have uv31 : (0 : Int) ≤ v31.toInt ∧ v31.toInt ≤ 1 := rv31
              refine lv_if_eq (tgt := 249) hx hb dX11_arrive_83 (by decide) (fun c83_32 => ?_) (fun c83_32 => ?_)
              · skip
                replace hW := wfP_i (wfP_l hW) (i_eq c83_32 rfl (rg_i kc_0))
                have ic83_32 := congrArg Int32.toInt c83_32
                have y33 : (0 : Int32).toInt = 0 := by decide
                have q34 : rg (0) (0) v31 := (rg_eq c83_32 rv31 kc_0).1
                have uq34 : (0 : Int) ≤ v31.toInt ∧ v31.toInt ≤ 0 := q34
                obtain ⟨v35, ev35, fv35⟩ := inc_ex a37_5_13 (1) (1 : Int32) (by decide)
                have rv35 : rg (1) (212) v35 := (rg_add ev35 q20 kc_1 rfl).1
                have tv35 := (rg_add ev35 q20 kc_1 rfl).2
                have yv35 : (1 : Int32).toInt = 1 := by decide
                replace hW := (wfP_i (wfP_i (wfP_i (wfP_a hW v35) ev35) rv35) (w_iadd tv35 rfl (rg_i kc_1)))
                refine lv_iinc (v := v35) (lv' := [(5, .int v35), (4, .int v30), (0, .ref (Z.ad 11 i0)), (1, .int p1), (2, .ref (Z.ad 3 q2)), (3, .ref (Z.ad 4 v7.toInt.toNat))]) hx hb dX11_arrive_249 hl (k := 5) rfl fv35 (by decide) rfl (fun ls hl => ?_)
                refine lv_goto (tgt := 37) hx hb dX11_arrive_252 (by decide) ?_
                exact ih14 _ (ms_up tv35 kc_1 q20 rfl rfl) v30 v35 Z g28 _ _ ls _ _ (mFr.tr hF14 hp28.1 rfl) (mFi.sub hI14 hi28 (mSub_eq 46 rfl (mSub_eq 47 rfl (mSub_eq 48 rfl (mSub_eq 49 rfl (mSub_eq 50 rfl (mSub_eq 51 rfl (mSub_eq 52 rfl (mSub_eq 53 rfl (mSub_eq 54 rfl (mSub_eq 55 rfl (mSub_eq 56 rfl (mSub_eq 76 rfl mSub_nil))))))))))))) xa (cL.mono L28 (by omega)) hzl hcs hp28.2.2.1 (rg_w rv30 rfl) (rg_w rv35 rfl) hW (lv_sub hl [2, 3, 4, 5, 1, 0] rfl) rfl
              · skip
                replace hW := wfP_i (wfP_r hW) (i_ne c83_32 rfl (rg_i kc_0))
                have ic83_32 : v31.toInt ≠ (0 : Int32).toInt := fun z => c83_32 (Int32.toInt_inj.mp z)
                have y36 : (0 : Int32).toInt = 0 := by decide
                have q37 : rg (1) (1) v31 := rg_neL c83_32 rv31 kc_0
                have uq37 : (1 : Int) ≤ v31.toInt ∧ v31.toInt ≤ 1 := q37
                refine lv_aload_n hx hb dX11_arrive_86 rfl (lv_at hl 1 rfl) ?_
                refine lv_iload_n hx hb dX11_arrive_87 rfl (lv_at hl 2 rfl) ?_
                refine lv_aload_n hx hb dX11_arrive_88 rfl (lv_at hl 3 rfl) ?_
                obtain ⟨ho38, hW⟩ := wfP_e0 hW
                have hz038 := hzl.2.2.2.1
                have hz138 := hzl.2.2.2.2
                refine k_calli xa L28 (k_runV (As := [.int p1, .ref (Z.ad 3 q2)]) (rest := []) ⟨hx, hb, hml, x.2.2.2.2.1, x.2.2.1⟩ (d_kcellCame l (X + (10 * a37_5_13.toInt)) g28 i0 p1 q2 _ ⟨by omega, by omega⟩ hp28.2.2.1 (by omega) al15 (rg_w rp1 rfl) al16 (by omega) hW) (cwV 2 x.2.2.1 (wk_V kd_X11_cellCame kl_X11_136 ki_X11_cellCame ks_X11_X11_cellCame kn_X11) rfl rfl rfl hd_kcellCame ⟨Nat.le_of_ble_eq_true rfl, Nat.le_of_ble_eq_true rfl⟩) ⟨cPreA.blind, c_recv x L28 al15 rfl, fun U hU hW => k_pre xa L28 U hU hW⟩ rfl rfl hl.1 rfl (lv_room (Nat.le_of_ble_eq_true rfl)) dX11_arrive_89 ⟨show c14 + 2 ≤ a by omega, show l14 + (243) ≤ b by omega⟩) (fun v39 Z g38 H38 k38 kc38 kn38 hk38 hn38 hp38 hz38 xa L38 => ?_)
                obtain ⟨hW, hi38, hp38⟩ := hp38
                replace hW := wfP_i (wfP_a (wfP_i (wfP_i hW ⟨hi38, hp38⟩) (cZg_of hz38 hk38 hn38)) Z) rfl
                have rv39 : rg (0) (1) v39 := hp38.2.1
                have uv39 : (0 : Int) ≤ v39.toInt ∧ v39.toInt ≤ 1 := rv39
                have hww38 := hp38.2.2.2.1
                have ea38_0 := hz38.2.2.1 11 i0 al15 (by omega)
                have ea38_1 := hz38.2.2.1 3 q2 al16 (by omega)
                have ea38_2 := hz38.2.2.1 4 v7.toInt.toNat al17 (by omega)
                rw [← ea38_0] at hl
                rw [← ea38_1] at hl
                rw [← ea38_2] at hl
                have al38_0 := hz38.2.1 11 i0 al15
                have al38_1 := hz38.2.1 3 q2 al16
                have al38_2 := hz38.2.1 4 v7.toInt.toNat al17
                have hZn38 := hz38.1
                have x := xa.1
                have hz := x.2.2.2.2.2.2.2.1
                have hzn := hz.1
                have hzl := cZl.tr hzl hz38
                have hcs : c14 + kc38 ≤ a ∧ l14 + kn38 ≤ b := by omega
                have L40 := cL.mono L38 (show _ ≤ (X + ((10 * a37_5_13.toInt) + 1)) by omega)
                refine lv_if_ne (tgt := 98) hx hb dX11_arrive_92 (by decide) (fun c92_41 => ?_) (fun c92_41 => ?_)
                · skip
                  replace hW := wfP_i (wfP_l hW) (i_ne c92_41 rfl (rg_i kc_0))
                  have ic92_41 : v39.toInt ≠ (0 : Int32).toInt := fun z => c92_41 (Int32.toInt_inj.mp z)
                  have y42 : (0 : Int32).toInt = 0 := by decide
                  have q43 : rg (1) (1) v39 := rg_neL c92_41 rv39 kc_0
                  have uq43 : (1 : Int) ≤ v39.toInt ∧ v39.toInt ≤ 1 := q43
                  refine lv_aload_n hx hb dX11_arrive_98 rfl (lv_at hl 4 rfl) ?_
                  have al44 : Z.al 5 v7.toInt.toNat := hz.2 5 v7.toInt.toNat (show v7.toInt.toNat < 2 * Z.n from (by omega))
                  refine c_getr (a := Z.ad 5 v7.toInt.toNat) x L40 4 v7.toInt.toNat 1 al38_2 rfl rfl (wk_in kf_X11_85) dX11_arrive_99 ?_
                  refine lv_aload_n hx hb dX11_arrive_102 rfl (lv_at hl 3 rfl) ?_
                  have al45 : Z.al 0 q2 := hz.2 0 q2 (show q2 < 2 * Z.n from (by omega))
                  refine c_getr (a := Z.ad 0 q2) x L40 3 q2 3 al38_1 rfl rfl (wk_in kf_X11_140) dX11_arrive_103 ?_
                  have al46 : Z.al 16 q2 := hz.2 16 q2 (show q2 < 2 * Z.n from (by omega))
                  refine c_getr (a := Z.ad 16 q2) x L40 0 q2 0 al45 rfl rfl (wk_in kf_X11_144) dX11_arrive_106 ?_
                  refine lv_aload_n hx hb dX11_arrive_109 rfl (lv_at hl 3 rfl) ?_
                  refine c_getr (a := Z.ad 0 q2) x L40 3 q2 3 al38_1 rfl rfl (wk_in kf_X11_140) dX11_arrive_110 ?_
                  refine c_geti x L40 0 q2 2 2 al45 rfl rfl (wk_in kf_X11_149) dX11_arrive_113 (fun v47 ev47 wv47 => ?_)
                  have rv47 : rg (-2147483648) (2147483647) v47 := rg_any v47
                  replace hW := (wfP_i (wfP_i (wfP_a hW v47) ev47) rv47)
                  have uv47 : (-2147483648 : Int) ≤ v47.toInt ∧ v47.toInt ≤ 2147483647 := rv47
                  refine lv_aload_n hx hb dX11_arrive_116 rfl (lv_at hl 1 rfl) ?_
                  refine c_geti x L40 11 i0 10 362 al38_0 rfl rfl (wk_in kf_X11_82) dX11_arrive_117 (fun v48 ev48 wv48 => ?_)
                  have rv48 : rg (-2147483648) (2147483647) v48 := rg_any v48
                  replace hW := (wfP_i (wfP_i (wfP_a hW v48) ev48) rv48)
                  have uv48 : (-2147483648 : Int) ≤ v48.toInt ∧ v48.toInt ≤ 2147483647 := rv48
                  have sv48 : v48.toInt = (g 362 i0).toInt := congrArg Int32.toInt (ev48.trans (congrFun ((show mFr [0, 1, 2, 32, 33, 34, 35, 36, 37, 38, 39, 40, 41, 42, 43, 44, 45, 46, 47, 48, 49, 67, 108, 109, 111, 135, 136, 164, 165, 166, 167, 168, 169, 170, 171, 172, 173, 174, 175, 176, 177, 178, 179, 180, 197, 198, 225, 226, 227, 228, 229, 230, 231, 232, 233, 234, 235, 288, 289, 290, 291, 292, 293, 294, 295, 296, 323, 384, 385, 386, 421, 422, 512, 544, 576, 768, 800, 832, 864, 928, 960, 992, 1024, 1056, 1088, 1248, 1280, 1344, 1536, 1728, 1729] g g38 from (mFr.tr (mFr.tr (mFr.tr mFr.rf hF14 rfl) hp28.1 rfl) hp38.1 rfl)).at 362 rfl) _))
                  refine c_ci (As := [.ref (Z.ad 16 q2), .int v47, .int v48]) (rest := []) x hml L40 5 v7.toInt.toNat al44 rfl (d_kunitCame l (X + ((10 * a37_5_13.toInt) + 1)) g38 v7.toInt.toNat q2 v47 v48 ⟨by omega, by omega⟩ (show v7.toInt.toNat < 2 * Z.n from (by omega)) al46 hW) (wk_V kd_X5_unitCame kl_X11_152 ki_X5_unitCame ks_X5_X5_unitCame kn_X5) rfl ⟨rfl, rfl⟩ hd_kunitCame ⟨Nat.le_of_ble_eq_true rfl, Nat.le_of_ble_eq_true rfl⟩ rfl hl.1 rfl (lv_room (Nat.le_of_ble_eq_true rfl)) dX11_arrive_120 (fun v50 g49 H49 k49 hp49 L49 => ?_) hcs
                  obtain ⟨hW, hi49, hp49⟩ := hp49
                  replace hW := wfP_i hW ⟨hi49, hp49⟩
                  have rv50 : rg (0) (2) v50 := hp49.2.1
                  have uv50 : (0 : Int) ≤ v50.toInt ∧ v50.toInt ≤ 2 := rv50
                  refine lv_istore (lv' := [(6, .int v50), (4, .int v30), (0, .ref (Z.ad 11 i0)), (1, .int p1), (2, .ref (Z.ad 3 q2)), (3, .ref (Z.ad 4 v7.toInt.toNat)), (5, .int a37_5_13)]) hx hb dX11_arrive_123 hl (by decide) rfl (fun ls hl => ?_)
                  refine lv_iload hx hb dX11_arrive_125 (lv_at hl 0 rfl) ?_
                  refine lv_iconst (v := 1) hx hb dX11_arrive_127 (by decide) ?_
                  obtain ⟨P51, hP51, hW⟩ := wfP_ex hW
                  have j162_51 : ∀ (Z : cZ) (g51 : mSt) (H51 : Heap) (k51 : List Loc) (ls : Array Slot) (c51 l51 : Nat), mFr [36, 40, 41, 42, 44, 45, 46, 48, 67, 108, 111, 164, 173, 176, 177, 178, 198, 544, 576, 768, 832, 864] g49 g51 → mFi (im_karrive i0 p1 q2) g49 g51 → cXA p c cX11_arrive s args (wk (Cond.code yX11_arrive cX11_arrive 9 none)) m G Z A RX11 H0 → cL G Z A H0 (X + (10 * a37_5_13.toInt + 1)) g51 H51 k51 → cZl Z0 Z c51 l51 → (c51 ≤ a ∧ l51 ≤ b) → cJ Z g51 → wfP (P51 Z g51) → lv_has ls 9 [(0, .ref (Z.ad 11 i0)), (1, .int p1), (2, .ref (Z.ad 3 q2)), (3, .ref (Z.ad 4 v7.toInt.toNat)), (4, .int v30), (5, .int a37_5_13)] → W p l e (rm_karrive a b) s m args below meth c H51 k51 c51 l51 Q (F0 m 162 ls []) := by
                    intro  Z g51 H51 k51 ls c51 l51 hF51 hI51 xa L51 hzl hcs hJ51  hW hl
                    have x := xa.1
                    have hz := x.2.2.2.2.2.2.2.1
                    have hzn := hz.1
                    have hZn51 := hzl.1
                    replace hW := wfP_i (wfP_i (wfP_i (wfP_i (wfP_i (wfP_a (wfP_a hP51 Z) g51) hF51) hI51) hJ51) hzl.1) hW
                    have al52 := hzl.2.1 11 i0 hal0
                    have al53 := hzl.2.1 3 q2 hq2
                    have al54 : Z.al 4 v7.toInt.toNat := hz.2 4 v7.toInt.toNat (show v7.toInt.toNat < Z.n from (by omega))
                    refine lv_aload_n hx hb dX11_arrive_162 rfl (lv_at hl 3 rfl) ?_
                    have al55 : Z.al 5 v7.toInt.toNat := hz.2 5 v7.toInt.toNat (show v7.toInt.toNat < 2 * Z.n from (by omega))
                    refine c_getr (a := Z.ad 5 v7.toInt.toNat) x L51 4 v7.toInt.toNat 1 al54 rfl rfl (wk_in kf_X11_85) dX11_arrive_163 ?_
                    refine lv_aload_n hx hb dX11_arrive_166 rfl (lv_at hl 0 rfl) ?_
                    have al56 : Z.al 34 0 := hz.2 34 0 (show 0 < 1 from (by omega))
                    refine c_getr (a := Z.ad 34 0) x L51 11 i0 6 al52 rfl rfl (wk_in kf_X11_16) dX11_arrive_167 ?_
                    refine c_ci (As := [.ref (Z.ad 34 0)]) (rest := []) x hml L51 5 v7.toInt.toNat al55 rfl (d_ktakeNext l (X + (10 * a37_5_13.toInt + 1)) g51 v7.toInt.toNat 0 ⟨by omega, by omega⟩ (show v7.toInt.toNat < 2 * Z.n from (by omega)) al56 hW) (wk_V kd_X5_takeNext kl_X11_159 ki_X5_takeNext ks_X5_X5_takeNext kn_X5) rfl ⟨rfl, rfl⟩ hd_ktakeNext ⟨Nat.le_of_ble_eq_true rfl, Nat.le_of_ble_eq_true rfl⟩ rfl hl.1 rfl (lv_room (Nat.le_of_ble_eq_true rfl)) dX11_arrive_170 (fun v58 g57 H57 k57 hp57 L57 => ?_) hcs
                    obtain ⟨hW, hi57, hp57⟩ := hp57
                    replace hW := wfP_i hW ⟨hi57, hp57⟩
                    have rv58 : rg (0) (60) v58 := hp57.2.1
                    have uv58 : (0 : Int) ≤ v58.toInt ∧ v58.toInt ≤ 60 := rv58
                    have L59 := cL.mono L57 (show _ ≤ (X + ((10 * a37_5_13.toInt + 1) + 1)) by omega)
                    refine lv_istore (lv' := [(7, .int v58), (0, .ref (Z.ad 11 i0)), (1, .int p1), (2, .ref (Z.ad 3 q2)), (3, .ref (Z.ad 4 v7.toInt.toNat)), (4, .int v30), (5, .int a37_5_13)]) hx hb dX11_arrive_173 hl (by decide) rfl (fun ls hl => ?_)
                    refine lv_iconst (v := 0) hx hb dX11_arrive_175 (by decide) ?_
                    refine lv_istore (lv' := [(8, .int (0 : Int32)), (7, .int v58), (0, .ref (Z.ad 11 i0)), (1, .int p1), (2, .ref (Z.ad 3 q2)), (3, .ref (Z.ad 4 v7.toInt.toNat)), (4, .int v30), (5, .int a37_5_13)]) hx hb dX11_arrive_176 hl (by decide) rfl (fun ls hl => ?_)
                    obtain ⟨P62, hP62, hW⟩ := wfP_ex hW
                    have j178_62 : ∀ (n : Nat) (a178_7_60 a178_8_61 : Int32) (Z : cZ) (g62 : mSt) (H62 : Heap) (k62 : List Loc) (ls : Array Slot) (c62 l62 : Nat), mFr [32, 33, 34, 35, 36, 37, 38, 39, 40, 41, 42, 43, 44, 45, 46, 47, 48, 49, 135, 170, 171, 198, 288, 289, 290, 291, 292, 293, 294, 295, 296, 323, 384, 385, 386, 832, 864, 1088, 1280, 1344, 1536, 1728, 1729] g57 g62 → mFi (im_karrive i0 p1 q2) g57 g62 → cXA p c cX11_arrive s args (wk (Cond.code yX11_arrive cX11_arrive 9 none)) m G Z A RX11 H0 → cL G Z A H0 (X + (10 * a37_5_13.toInt + 2 + a178_8_61.toInt)) g62 H62 k62 → cZl Z0 Z c62 l62 → (c62 ≤ a ∧ l62 ≤ b) → cJ Z g62 → rg (0) (60) a178_7_60 → rg (0) (8) a178_8_61 → wfP (P62 a178_7_60 a178_8_61 Z g62) → lv_has ls 9 [(0, .ref (Z.ad 11 i0)), (1, .int p1), (2, .ref (Z.ad 3 q2)), (3, .ref (Z.ad 4 v7.toInt.toNat)), (4, .int v30), (5, .int a37_5_13), (7, .int a178_7_60), (8, .int a178_8_61)] → ((8 : Int) - a178_8_61.toInt).toNat = n → W p l e (rm_karrive a b) s m args below meth c H62 k62 c62 l62 Q (F0 m 178 ls []) := by
                      intro n
                      induction n using Nat.strongRecOn with
                      | _ n ih62 =>
                        intro a178_7_60 a178_8_61 Z g62 H62 k62 ls c62 l62 hF62 hI62 xa L62 hzl hcs hJ62 ra178_7_60 ra178_8_61 hW hl hn62
                        subst hn62
                        have x := xa.1
                        have hz := x.2.2.2.2.2.2.2.1
                        have hzn := hz.1
                        have hZn62 := hzl.1
                        replace hW := wfP_i (wfP_i (wfP_i (wfP_i (wfP_i (wfP_i (wfP_i (wfP_a (wfP_a (wfP_a (wfP_a hP62 a178_7_60) a178_8_61) Z) g62) hF62) hI62) hJ62) hzl.1) ra178_7_60) ra178_8_61) hW
                        have ua178_7_60 : (0 : Int) ≤ a178_7_60.toInt ∧ a178_7_60.toInt ≤ 60 := ra178_7_60
                        have ua178_8_61 : (0 : Int) ≤ a178_8_61.toInt ∧ a178_8_61.toInt ≤ 8 := ra178_8_61
                        have al63 := hzl.2.1 11 i0 hal0
                        have al64 := hzl.2.1 3 q2 hq2
                        have al65 : Z.al 4 v7.toInt.toNat := hz.2 4 v7.toInt.toNat (show v7.toInt.toNat < Z.n from (by omega))
                        refine lv_iload hx hb dX11_arrive_178 (lv_at hl 7 rfl) ?_
                        refine lv_bipush (v := 8) hx hb dX11_arrive_180 (by decide) ?_
                        refine lv_icmp_ge (tgt := 249) hx hb dX11_arrive_182 (by decide) (fun c182_66 => ?_) (fun c182_66 => ?_)
                        · skip
                          replace hW := wfP_i (wfP_l hW) (i_le c182_66 (rg_i kc_8) rfl)
                          have ic182_66 := Int32.le_iff_toInt_le.mp c182_66
                          have q67 : rg (8) (8) a178_8_61 := (rg_le c182_66 kc_8 ra178_8_61).2
                          have uq67 : (8 : Int) ≤ a178_8_61.toInt ∧ a178_8_61.toInt ≤ 8 := q67
                          obtain ⟨v68, ev68, fv68⟩ := inc_ex a37_5_13 (1) (1 : Int32) (by decide)
                          have rv68 : rg (1) (212) v68 := (rg_add ev68 q20 kc_1 rfl).1
                          have tv68 := (rg_add ev68 q20 kc_1 rfl).2
                          have yv68 : (1 : Int32).toInt = 1 := by decide
                          replace hW := (wfP_i (wfP_i (wfP_i (wfP_a hW v68) ev68) rv68) (w_iadd tv68 rfl (rg_i kc_1)))
                          refine lv_iinc (v := v68) (lv' := [(5, .int v68), (0, .ref (Z.ad 11 i0)), (1, .int p1), (2, .ref (Z.ad 3 q2)), (3, .ref (Z.ad 4 v7.toInt.toNat)), (4, .int v30), (7, .int a178_7_60), (8, .int a178_8_61)]) hx hb dX11_arrive_249 hl (k := 5) rfl fv68 (by decide) rfl (fun ls hl => ?_)
                          refine lv_goto (tgt := 37) hx hb dX11_arrive_252 (by decide) ?_
                          exact ih14 _ (ms_up tv68 kc_1 q20 rfl rfl) v30 v68 Z g62 _ _ ls _ _ (mFr.tr (mFr.tr (mFr.tr (mFr.tr (mFr.tr (mFr.tr hF14 hp28.1 rfl) hp38.1 rfl) hp49.1 rfl) hF51 rfl) hp57.1 rfl) hF62 rfl) (mFi.tr (mFi.sub (mFi.tr (mFi.sub (mFi.sub (mFi.sub hI14 hi28 (mSub_eq 46 rfl (mSub_eq 47 rfl (mSub_eq 48 rfl (mSub_eq 49 rfl (mSub_eq 50 rfl (mSub_eq 51 rfl (mSub_eq 52 rfl (mSub_eq 53 rfl (mSub_eq 54 rfl (mSub_eq 55 rfl (mSub_eq 56 rfl (mSub_eq 76 rfl mSub_nil))))))))))))) hi38 (mSub_any 0 rfl (mSub_any 1 rfl (mSub_any 2 rfl (mSub_any 17 rfl (mSub_any 21 rfl (mSub_any 22 rfl (mSub_eq 23 rfl (mSub_any 26 rfl (mSub_any 72 rfl (mSub_any 73 rfl (mSub_any 74 rfl (mSub_any 80 rfl (mSub_any 81 rfl (mSub_any 82 rfl (mSub_any 83 rfl mSub_nil)))))))))))))))) hi49 (mSub_any 21 rfl (mSub_any 22 rfl (mSub_any 24 rfl (mSub_any 27 rfl (mSub_any 28 rfl (mSub_any 29 rfl (mSub_any 30 rfl (mSub_any 31 rfl (mSub_any 32 rfl (mSub_any 33 rfl (mSub_any 34 rfl (mSub_any 35 rfl (mSub_any 37 rfl (mSub_any 38 rfl (mSub_any 41 rfl (mSub_any 42 rfl (mSub_any 43 rfl (mSub_any 44 rfl (mSub_any 45 rfl (mSub_any 70 rfl (mSub_any 70 rfl (mSub_any 71 rfl (mSub_any 71 rfl (mSub_any 73 rfl (mSub_any 74 rfl (mSub_any 75 rfl (mSub_any 78 rfl (mSub_any 79 rfl (mSub_any 85 rfl (mSub_any 86 rfl (mSub_any 86 rfl (mSub_any 87 rfl (mSub_any 87 rfl mSub_nil)))))))))))))))))))))))))))))))))) hI51) hi57 (mSub_any 33 rfl (mSub_any 34 rfl (mSub_eq 84 rfl (mSub_any 86 rfl (mSub_any 87 rfl mSub_nil)))))) hI62) xa (cL.mono L62 (by omega)) hzl hcs hJ62 (rg_w rv30 rfl) (rg_w rv68 rfl) hW (lv_sub hl [1, 2, 3, 4, 5, 0] rfl) rfl
                        · skip
                          replace hW := wfP_i (wfP_r hW) (i_lt (rg_nle c182_66) rfl (rg_i kc_8))
                          have ic182_66 := Int32.lt_iff_toInt_lt.mp (rg_nle c182_66)
                          have q69 : rg (0) (7) a178_8_61 := (rg_lt (rg_nle c182_66) ra178_8_61 kc_8).1
                          have uq69 : (0 : Int) ≤ a178_8_61.toInt ∧ a178_8_61.toInt ≤ 7 := q69
                          refine lv_iload hx hb dX11_arrive_185 (lv_at hl 6 rfl) ?_
                          refine lv_if_le (tgt := 249) hx hb dX11_arrive_187 (by decide) (fun c187_70 => ?_) (fun c187_70 => ?_)
                          · skip
                            replace hW := wfP_i (wfP_l hW) (i_le c187_70 rfl (rg_i kc_0))
                            have ic187_70 := Int32.le_iff_toInt_le.mp c187_70
                            have q71 : rg (0) (0) a178_7_60 := (rg_le c187_70 ra178_7_60 kc_0).1
                            have uq71 : (0 : Int) ≤ a178_7_60.toInt ∧ a178_7_60.toInt ≤ 0 := q71
                            obtain ⟨v72, ev72, fv72⟩ := inc_ex a37_5_13 (1) (1 : Int32) (by decide)
                            have rv72 : rg (1) (212) v72 := (rg_add ev72 q20 kc_1 rfl).1
                            have tv72 := (rg_add ev72 q20 kc_1 rfl).2
                            have yv72 : (1 : Int32).toInt = 1 := by decide
                            replace hW := (wfP_i (wfP_i (wfP_i (wfP_a hW v72) ev72) rv72) (w_iadd tv72 rfl (rg_i kc_1)))
                            refine lv_iinc (v := v72) (lv' := [(5, .int v72), (0, .ref (Z.ad 11 i0)), (1, .int p1), (2, .ref (Z.ad 3 q2)), (3, .ref (Z.ad 4 v7.toInt.toNat)), (4, .int v30), (7, .int a178_7_60), (8, .int a178_8_61)]) hx hb dX11_arrive_249 hl (k := 5) rfl fv72 (by decide) rfl (fun ls hl => ?_)
                            refine lv_goto (tgt := 37) hx hb dX11_arrive_252 (by decide) ?_
                            exact ih14 _ (ms_up tv72 kc_1 q20 rfl rfl) v30 v72 Z g62 _ _ ls _ _ (mFr.tr (mFr.tr (mFr.tr (mFr.tr (mFr.tr (mFr.tr hF14 hp28.1 rfl) hp38.1 rfl) hp49.1 rfl) hF51 rfl) hp57.1 rfl) hF62 rfl) (mFi.tr (mFi.sub (mFi.tr (mFi.sub (mFi.sub (mFi.sub hI14 hi28 (mSub_eq 46 rfl (mSub_eq 47 rfl (mSub_eq 48 rfl (mSub_eq 49 rfl (mSub_eq 50 rfl (mSub_eq 51 rfl (mSub_eq 52 rfl (mSub_eq 53 rfl (mSub_eq 54 rfl (mSub_eq 55 rfl (mSub_eq 56 rfl (mSub_eq 76 rfl mSub_nil))))))))))))) hi38 (mSub_any 0 rfl (mSub_any 1 rfl (mSub_any 2 rfl (mSub_any 17 rfl (mSub_any 21 rfl (mSub_any 22 rfl (mSub_eq 23 rfl (mSub_any 26 rfl (mSub_any 72 rfl (mSub_any 73 rfl (mSub_any 74 rfl (mSub_any 80 rfl (mSub_any 81 rfl (mSub_any 82 rfl (mSub_any 83 rfl mSub_nil)))))))))))))))) hi49 (mSub_any 21 rfl (mSub_any 22 rfl (mSub_any 24 rfl (mSub_any 27 rfl (mSub_any 28 rfl (mSub_any 29 rfl (mSub_any 30 rfl (mSub_any 31 rfl (mSub_any 32 rfl (mSub_any 33 rfl (mSub_any 34 rfl (mSub_any 35 rfl (mSub_any 37 rfl (mSub_any 38 rfl (mSub_any 41 rfl (mSub_any 42 rfl (mSub_any 43 rfl (mSub_any 44 rfl (mSub_any 45 rfl (mSub_any 70 rfl (mSub_any 70 rfl (mSub_any 71 rfl (mSub_any 71 rfl (mSub_any 73 rfl (mSub_any 74 rfl (mSub_any 75 rfl (mSub_any 78 rfl (mSub_any 79 rfl (mSub_any 85 rfl (mSub_any 86 rfl (mSub_any 86 rfl (mSub_any 87 rfl (mSub_any 87 rfl mSub_nil)))))))))))))))))))))))))))))))))) hI51) hi57 (mSub_any 33 rfl (mSub_any 34 rfl (mSub_eq 84 rfl (mSub_any 86 rfl (mSub_any 87 rfl mSub_nil)))))) hI62) xa (cL.mono L62 (by omega)) hzl hcs hJ62 (rg_w rv30 rfl) (rg_w rv72 rfl) hW (lv_sub hl [1, 2, 3, 4, 5, 0] rfl) rfl
                          · skip
                            replace hW := wfP_i (wfP_r hW) (i_lt (rg_nle c187_70) (rg_i kc_0) rfl)
                            have ic187_70 := Int32.lt_iff_toInt_lt.mp (rg_nle c187_70)
                            have q73 : rg (1) (60) a178_7_60 := (rg_lt (rg_nle c187_70) kc_0 ra178_7_60).2
                            have uq73 : (1 : Int) ≤ a178_7_60.toInt ∧ a178_7_60.toInt ≤ 60 := q73
                            refine lv_aload_n hx hb dX11_arrive_190 rfl (lv_at hl 0 rfl) ?_
                            have al74 : Z.al 9 0 := hz.2 9 0 (show 0 < 1 from (by omega))
                            refine c_getr (a := Z.ad 9 0) x L62 11 i0 5 al63 rfl rfl (wk_in kf_X11_12) dX11_arrive_191 ?_
                            refine lv_aload_n hx hb dX11_arrive_194 rfl (lv_at hl 0 rfl) ?_
                            have al75 : Z.al 34 0 := hz.2 34 0 (show 0 < 1 from (by omega))
                            refine c_getr (a := Z.ad 34 0) x L62 11 i0 6 al63 rfl rfl (wk_in kf_X11_16) dX11_arrive_195 ?_
                            refine lv_iload hx hb dX11_arrive_198 (lv_at hl 6 rfl) ?_
                            refine lv_iload_n hx hb dX11_arrive_200 rfl (lv_at hl 1 rfl) ?_
                            refine lv_iconst (v := 2) hx hb dX11_arrive_201 (by decide) ?_
                            refine lv_irem hx hb dX11_arrive_202 (by decide) ?_
                            refine lv_topi (fun v76 ev76 => ?_)
                            have rv76 : rg (0) (1) v76 := (rg_rem ev76 rp1 kc_2 rfl).1
                            replace hW := (wfP_i (wfP_i (wfP_i (wfP_a hW v76) ev76) rv76) ((rg_rem ev76 rp1 kc_2 rfl).2))
                            have tv76 := (rg_rem ev76 rp1 kc_2 rfl).2
                            have y77 : (2 : Int32).toInt = 2 := by decide
                            have uv76 : (0 : Int) ≤ v76.toInt ∧ v76.toInt ≤ 1 := rv76
                            refine lv_iconst (v := 1) hx hb dX11_arrive_203 (by decide) ?_
                            refine lv_icmp_ne (tgt := 211) hx hb dX11_arrive_204 (by decide) (fun c204_78 => ?_) (fun c204_78 => ?_)
                            · skip
                              replace hW := wfP_i (wfP_l hW) (i_ne c204_78 rfl (rg_i kc_1))
                              have ic204_78 : v76.toInt ≠ (1 : Int32).toInt := fun z => c204_78 (Int32.toInt_inj.mp z)
                              have y79 : (1 : Int32).toInt = 1 := by decide
                              have q80 : rg (0) (0) v76 := rg_neH c204_78 rv76 kc_1
                              have uq80 : (0 : Int) ≤ v76.toInt ∧ v76.toInt ≤ 0 := q80
                              refine lv_iconst (v := 0) hx hb dX11_arrive_211 (by decide) ?_
                              refine c_ci (As := [.ref (Z.ad 34 0), .int a178_7_60, .int (0 : Int32)]) (rest := []) x hml L62 9 0 al74 rfl (d_ksread l (X + (10 * a37_5_13.toInt + 2 + a178_8_61.toInt)) g62 0 0 a178_7_60 (0 : Int32) ⟨by omega, by omega⟩ al74 al75 (rg_w q73 rfl) (rg_w kc_0 rfl) hW) (wk_V kd_X9_read kl_X11_163 ki_X9_read ks_X9_X9_read kn_X9) rfl ⟨rfl, rfl⟩ hd_ksread ⟨Nat.le_of_ble_eq_true rfl, Nat.le_of_ble_eq_true rfl⟩ rfl hl.1 rfl (lv_room (Nat.le_of_ble_eq_true rfl)) dX11_arrive_212 (fun v82 g81 H81 k81 hp81 L81 => ?_) hcs
                              obtain ⟨hW, hi81, hp81⟩ := hp81
                              replace hW := wfP_i hW ⟨hi81, hp81⟩
                              have rv82 : rg (0) (1) v82 := hp81.2.1
                              have uv82 : (0 : Int) ≤ v82.toInt ∧ v82.toInt ≤ 1 := rv82
                              have hw83 := hp81.2.2
                              obtain ⟨P84, hP84, hW⟩ := wfP_ex hW
                              have j230_84 : ∀ (Z : cZ) (g84 : mSt) (H84 : Heap) (k84 : List Loc) (ls : Array Slot) (c84 l84 : Nat), mFr [32, 33, 34, 35, 36, 37, 38, 39, 40, 41, 42, 43, 44, 45, 46, 47, 48, 49, 135, 198, 323, 384, 385, 386, 832, 864, 1536, 1728, 1729] g81 g84 → mFi (im_karrive i0 p1 q2) g81 g84 → cXA p c cX11_arrive s args (wk (Cond.code yX11_arrive cX11_arrive 9 none)) m G Z A RX11 H0 → cL G Z A H0 (X + (10 * a37_5_13.toInt + 2 + a178_8_61.toInt)) g84 H84 k84 → cZl Z0 Z c84 l84 → (c84 ≤ a ∧ l84 ≤ b) → cJ Z g84 → wfP (P84 Z g84) → lv_has ls 9 [(0, .ref (Z.ad 11 i0)), (1, .int p1), (2, .ref (Z.ad 3 q2)), (3, .ref (Z.ad 4 v7.toInt.toNat)), (4, .int v30), (5, .int a37_5_13), (8, .int a178_8_61)] → W p l e (rm_karrive a b) s m args below meth c H84 k84 c84 l84 Q (F0 m 230 ls []) := by
                                intro  Z g84 H84 k84 ls c84 l84 hF84 hI84 xa L84 hzl hcs hJ84  hW hl
                                have x := xa.1
                                have hz := x.2.2.2.2.2.2.2.1
                                have hzn := hz.1
                                have hZn84 := hzl.1
                                replace hW := wfP_i (wfP_i (wfP_i (wfP_i (wfP_i (wfP_a (wfP_a hP84 Z) g84) hF84) hI84) hJ84) hzl.1) hW
                                have al85 := hzl.2.1 11 i0 hal0
                                have al86 := hzl.2.1 3 q2 hq2
                                have al87 : Z.al 4 v7.toInt.toNat := hz.2 4 v7.toInt.toNat (show v7.toInt.toNat < Z.n from (by omega))
                                refine lv_aload_n hx hb dX11_arrive_230 rfl (lv_at hl 3 rfl) ?_
                                have al88 : Z.al 5 v7.toInt.toNat := hz.2 5 v7.toInt.toNat (show v7.toInt.toNat < 2 * Z.n from (by omega))
                                refine c_getr (a := Z.ad 5 v7.toInt.toNat) x L84 4 v7.toInt.toNat 1 al87 rfl rfl (wk_in kf_X11_85) dX11_arrive_231 ?_
                                refine lv_aload_n hx hb dX11_arrive_234 rfl (lv_at hl 0 rfl) ?_
                                have al89 : Z.al 34 0 := hz.2 34 0 (show 0 < 1 from (by omega))
                                refine c_getr (a := Z.ad 34 0) x L84 11 i0 6 al85 rfl rfl (wk_in kf_X11_16) dX11_arrive_235 ?_
                                refine c_ci (As := [.ref (Z.ad 34 0)]) (rest := []) x hml L84 5 v7.toInt.toNat al88 rfl (d_ktakeNext l (X + (10 * a37_5_13.toInt + 2 + a178_8_61.toInt)) g84 v7.toInt.toNat 0 ⟨by omega, by omega⟩ (show v7.toInt.toNat < 2 * Z.n from (by omega)) al89 hW) (wk_V kd_X5_takeNext kl_X11_159 ki_X5_takeNext ks_X5_X5_takeNext kn_X5) rfl ⟨rfl, rfl⟩ hd_ktakeNext ⟨Nat.le_of_ble_eq_true rfl, Nat.le_of_ble_eq_true rfl⟩ rfl hl.1 rfl (lv_room (Nat.le_of_ble_eq_true rfl)) dX11_arrive_238 (fun v91 g90 H90 k90 hp90 L90 => ?_) hcs
                                obtain ⟨hW, hi90, hp90⟩ := hp90
                                replace hW := wfP_i hW ⟨hi90, hp90⟩
                                have rv91 : rg (0) (60) v91 := hp90.2.1
                                have uv91 : (0 : Int) ≤ v91.toInt ∧ v91.toInt ≤ 60 := rv91
                                have L92 := cL.mono L90 (show _ ≤ (X + ((10 * a37_5_13.toInt + 2 + a178_8_61.toInt) + 1)) by omega)
                                refine lv_istore (lv' := [(7, .int v91), (0, .ref (Z.ad 11 i0)), (1, .int p1), (2, .ref (Z.ad 3 q2)), (3, .ref (Z.ad 4 v7.toInt.toNat)), (4, .int v30), (5, .int a37_5_13), (8, .int a178_8_61)]) hx hb dX11_arrive_241 hl (by decide) rfl (fun ls hl => ?_)
                                obtain ⟨v93, ev93, fv93⟩ := inc_ex a178_8_61 (1) (1 : Int32) (by decide)
                                have rv93 : rg (1) (8) v93 := (rg_add ev93 q69 kc_1 rfl).1
                                have tv93 := (rg_add ev93 q69 kc_1 rfl).2
                                have yv93 : (1 : Int32).toInt = 1 := by decide
                                replace hW := (wfP_i (wfP_i (wfP_i (wfP_a hW v93) ev93) rv93) (w_iadd tv93 rfl (rg_i kc_1)))
                                refine lv_iinc (v := v93) (lv' := [(8, .int v93), (7, .int v91), (0, .ref (Z.ad 11 i0)), (1, .int p1), (2, .ref (Z.ad 3 q2)), (3, .ref (Z.ad 4 v7.toInt.toNat)), (4, .int v30), (5, .int a37_5_13)]) hx hb dX11_arrive_243 hl (k := 7) rfl fv93 (by decide) rfl (fun ls hl => ?_)
                                refine lv_goto (tgt := 178) hx hb dX11_arrive_246 (by decide) ?_
                                exact ih62 _ (ms_up tv93 kc_1 q69 rfl rfl) v91 v93 Z g90 _ _ ls _ _ (mFr.tr (mFr.tr (mFr.tr hF62 hp81.1 rfl) hF84 rfl) hp90.1 rfl) (mFi.sub (mFi.tr (mFi.sub hI62 hi81 (mSub_eq 57 rfl (mSub_eq 58 rfl (mSub_eq 59 rfl (mSub_eq 60 rfl (mSub_eq 61 rfl (mSub_eq 62 rfl (mSub_eq 63 rfl (mSub_eq 64 rfl (mSub_eq 65 rfl mSub_nil)))))))))) hI84) hi90 (mSub_any 33 rfl (mSub_any 34 rfl (mSub_eq 84 rfl (mSub_any 86 rfl (mSub_any 87 rfl mSub_nil)))))) xa (cL.mono L92 (by omega)) hzl hcs (cJ_fr hJ84 hp90.1 rfl) (rg_w rv91 rfl) (rg_w rv93 rfl) hW (lv_sub hl [2, 3, 4, 5, 6, 7, 1, 0] rfl) rfl
                              refine lv_if_eq (tgt := 230) hx hb dX11_arrive_215 (by decide) (fun c215_94 => ?_) (fun c215_94 => ?_)
                              · skip
                                replace hW := wfP_i (wfP_l hW) (i_eq c215_94 rfl (rg_i kc_0))
                                have ic215_94 := congrArg Int32.toInt c215_94
                                have y95 : (0 : Int32).toInt = 0 := by decide
                                have q96 : rg (0) (0) v82 := (rg_eq c215_94 rv82 kc_0).1
                                have uq96 : (0 : Int) ≤ v82.toInt ∧ v82.toInt ≤ 0 := q96
                                exact j230_84  Z g81 _ _ ls _ _ mFr.rf mFi.rf xa (cL.mono L81 (by omega)) hzl hcs (cJ_fr hJ62 hp81.1 rfl)  hW (lv_sub hl [0, 1, 2, 3, 4, 5, 7] rfl)
                              · skip
                                replace hW := wfP_i (wfP_r hW) (i_ne c215_94 rfl (rg_i kc_0))
                                have ic215_94 : v82.toInt ≠ (0 : Int32).toInt := fun z => c215_94 (Int32.toInt_inj.mp z)
                                have y97 : (0 : Int32).toInt = 0 := by decide
                                have q98 : rg (1) (1) v82 := rg_neL c215_94 rv82 kc_0
                                have uq98 : (1 : Int) ≤ v82.toInt ∧ v82.toInt ≤ 1 := q98
                                refine lv_aload_n hx hb dX11_arrive_218 rfl (lv_at hl 3 rfl) ?_
                                refine lv_aload_n hx hb dX11_arrive_219 rfl (lv_at hl 0 rfl) ?_
                                refine c_getr (a := Z.ad 9 0) x L81 11 i0 5 al63 rfl rfl (wk_in kf_X11_12) dX11_arrive_220 ?_
                                refine lv_aload_n hx hb dX11_arrive_223 rfl (lv_at hl 0 rfl) ?_
                                refine c_geti x L81 11 i0 10 362 al63 rfl rfl (wk_in kf_X11_82) dX11_arrive_224 (fun v99 ev99 wv99 => ?_)
                                have rv99 : rg (-2147483648) (2147483647) v99 := rg_any v99
                                replace hW := (wfP_i (wfP_i (wfP_a hW v99) ev99) rv99)
                                have uv99 : (-2147483648 : Int) ≤ v99.toInt ∧ v99.toInt ≤ 2147483647 := rv99
                                have sv99 : v99.toInt = (g 362 i0).toInt := congrArg Int32.toInt (ev99.trans (congrFun ((show mFr [0, 1, 2, 32, 33, 34, 35, 36, 37, 38, 39, 40, 41, 42, 43, 44, 45, 46, 47, 48, 49, 67, 108, 109, 111, 135, 136, 164, 165, 166, 167, 168, 169, 170, 171, 172, 173, 174, 175, 176, 177, 178, 179, 180, 197, 198, 225, 226, 227, 228, 229, 230, 231, 232, 233, 234, 235, 288, 289, 290, 291, 292, 293, 294, 295, 296, 323, 384, 385, 386, 421, 422, 512, 544, 576, 768, 800, 832, 864, 928, 960, 992, 1024, 1056, 1088, 1248, 1280, 1344, 1536, 1728, 1729] g g81 from (mFr.tr (mFr.tr (mFr.tr (mFr.tr (mFr.tr (mFr.tr (mFr.tr (mFr.tr mFr.rf hF14 rfl) hp28.1 rfl) hp38.1 rfl) hp49.1 rfl) hF51 rfl) hp57.1 rfl) hF62 rfl) hp81.1 rfl)).at 362 rfl) _))
                                obtain ⟨n100_0, ho100, hW⟩ := wfP_e1 hW
                                have hz0100 := hzl.2.2.2.1
                                have hz1100 := hzl.2.2.2.2
                                refine k_callv xa L81 (k_runU (x := ⟨"CellSwitch$Side", "came", "(LCellSwitch$Signal;I)V"⟩) (As := [.ref (Z.ad 9 0), .int v99]) (rest := []) ⟨hx, hb, hml, x.2.2.2.2.1, x.2.2.1⟩ (d_kcame_4 l (X + (10 * a37_5_13.toInt + 2 + a178_8_61.toInt)) g81 v7.toInt.toNat 0 v99 _ n100_0 ⟨by omega, by omega⟩ (cJ_fr hJ62 hp81.1 rfl) (by omega) (show v7.toInt.toNat < Z.n from (by omega)) al74 (hw83 (by omega)) hW) (va_cwU 2 x.2.2.1 (wk_U (owner := "CellSwitch$Side") kd_X8_came kl_X11_167 km_CellSwitchSide_CellSwitchSide_came ks_X4_CellSwitchSide_X8_came ki_X8_came kn_X8) rfl rfl rfl rfl (by decide +kernel) ⟨Nat.le_of_ble_eq_true rfl, Nat.le_of_ble_eq_true rfl⟩) ⟨cPreA.blind, c_recv x L81 al65 rfl, fun U hU hW => k_pre xa L81 U hU hW⟩ rfl rfl hl.1 rfl (lv_room (Nat.le_of_ble_eq_true rfl)) dX11_arrive_227 ⟨show c62 + 2 ≤ a by omega, show l62 + (18 + n100_0) ≤ b by omega⟩) (fun  Z g100 H100 k100 kc100 kn100 hk100 hn100 hp100 hz100 xa L100 => ?_)
                                obtain ⟨hW, hi100, hp100⟩ := hp100
                                replace hW := wfP_i (wfP_a (wfP_i (wfP_i hW ⟨hi100, hp100⟩) (cZg_of hz100 hk100 hn100)) Z) rfl
                                have hww100 := hp100.2.2.1
                                have ea100_0 := hz100.2.2.1 11 i0 al63 (by omega)
                                have ea100_1 := hz100.2.2.1 3 q2 al64 (by omega)
                                have ea100_2 := hz100.2.2.1 4 v7.toInt.toNat al65 (by omega)
                                rw [← ea100_0] at hl
                                rw [← ea100_1] at hl
                                rw [← ea100_2] at hl
                                have al100_0 := hz100.2.1 11 i0 al63
                                have al100_1 := hz100.2.1 3 q2 al64
                                have al100_2 := hz100.2.1 4 v7.toInt.toNat al65
                                have hZn100 := hz100.1
                                have x := xa.1
                                have hz := x.2.2.2.2.2.2.2.1
                                have hzn := hz.1
                                have hzl := cZl.tr hzl hz100
                                have hcs : c62 + kc100 ≤ a ∧ l62 + kn100 ≤ b := by omega
                                exact j230_84  Z g100 _ _ ls _ _ (mFr.tr mFr.rf hp100.1 rfl) (mFi.sub mFi.rf hi100 (mSub_any 3 rfl (mSub_any 4 rfl (mSub_any 5 rfl (mSub_any 6 rfl (mSub_any 7 rfl (mSub_any 8 rfl (mSub_any 9 rfl (mSub_any 10 rfl (mSub_any 11 rfl (mSub_any 12 rfl (mSub_any 13 rfl (mSub_any 14 rfl (mSub_any 15 rfl (mSub_any 16 rfl (mSub_any 17 rfl (mSub_any 18 rfl (mSub_any 19 rfl (mSub_any 20 rfl (mSub_any 25 rfl (mSub_any 45 rfl (mSub_any 67 rfl (mSub_any 68 rfl (mSub_any 69 rfl (mSub_any 77 rfl (mSub_any 78 rfl (mSub_any 88 rfl (mSub_any 89 rfl (mSub_any 90 rfl mSub_nil))))))))))))))))))))))))))))) xa (cL.mono L100 (by omega)) hzl hcs hp100.2.1  hW (lv_sub hl [0, 1, 2, 3, 4, 5, 7] rfl)
                            · skip
                              replace hW := wfP_i (wfP_r hW) (i_eq c204_78 rfl (rg_i kc_1))
                              have ic204_78 := congrArg Int32.toInt c204_78
                              have y101 : (1 : Int32).toInt = 1 := by decide
                              have q102 : rg (1) (1) v76 := (rg_eq c204_78 rv76 kc_1).1
                              have uq102 : (1 : Int) ≤ v76.toInt ∧ v76.toInt ≤ 1 := q102
                              refine lv_iconst (v := 1) hx hb dX11_arrive_207 (by decide) ?_
                              refine lv_goto (tgt := 212) hx hb dX11_arrive_208 (by decide) ?_
                              refine c_ci (As := [.ref (Z.ad 34 0), .int a178_7_60, .int (1 : Int32)]) (rest := []) x hml L62 9 0 al74 rfl (d_ksread l (X + (10 * a37_5_13.toInt + 2 + a178_8_61.toInt)) g62 0 0 a178_7_60 (1 : Int32) ⟨by omega, by omega⟩ al74 al75 (rg_w q73 rfl) (rg_w kc_1 rfl) hW) (wk_V kd_X9_read kl_X11_163 ki_X9_read ks_X9_X9_read kn_X9) rfl ⟨rfl, rfl⟩ hd_ksread ⟨Nat.le_of_ble_eq_true rfl, Nat.le_of_ble_eq_true rfl⟩ rfl hl.1 rfl (lv_room (Nat.le_of_ble_eq_true rfl)) dX11_arrive_212 (fun v104 g103 H103 k103 hp103 L103 => ?_) hcs
                              obtain ⟨hW, hi103, hp103⟩ := hp103
                              replace hW := wfP_i hW ⟨hi103, hp103⟩
                              have rv104 : rg (0) (1) v104 := hp103.2.1
                              have uv104 : (0 : Int) ≤ v104.toInt ∧ v104.toInt ≤ 1 := rv104
                              have hw105 := hp103.2.2
                              obtain ⟨P106, hP106, hW⟩ := wfP_ex hW
                              have j230_106 : ∀ (Z : cZ) (g106 : mSt) (H106 : Heap) (k106 : List Loc) (ls : Array Slot) (c106 l106 : Nat), mFr [32, 33, 34, 35, 36, 37, 38, 39, 40, 41, 42, 43, 44, 45, 46, 47, 48, 49, 135, 198, 323, 384, 385, 386, 832, 864, 1536, 1728, 1729] g103 g106 → mFi (im_karrive i0 p1 q2) g103 g106 → cXA p c cX11_arrive s args (wk (Cond.code yX11_arrive cX11_arrive 9 none)) m G Z A RX11 H0 → cL G Z A H0 (X + (10 * a37_5_13.toInt + 2 + a178_8_61.toInt)) g106 H106 k106 → cZl Z0 Z c106 l106 → (c106 ≤ a ∧ l106 ≤ b) → cJ Z g106 → wfP (P106 Z g106) → lv_has ls 9 [(0, .ref (Z.ad 11 i0)), (1, .int p1), (2, .ref (Z.ad 3 q2)), (3, .ref (Z.ad 4 v7.toInt.toNat)), (4, .int v30), (5, .int a37_5_13), (8, .int a178_8_61)] → W p l e (rm_karrive a b) s m args below meth c H106 k106 c106 l106 Q (F0 m 230 ls []) := by
                                intro  Z g106 H106 k106 ls c106 l106 hF106 hI106 xa L106 hzl hcs hJ106  hW hl
                                have x := xa.1
                                have hz := x.2.2.2.2.2.2.2.1
                                have hzn := hz.1
                                have hZn106 := hzl.1
                                replace hW := wfP_i (wfP_i (wfP_i (wfP_i (wfP_i (wfP_a (wfP_a hP106 Z) g106) hF106) hI106) hJ106) hzl.1) hW
                                have al107 := hzl.2.1 11 i0 hal0
                                have al108 := hzl.2.1 3 q2 hq2
                                have al109 : Z.al 4 v7.toInt.toNat := hz.2 4 v7.toInt.toNat (show v7.toInt.toNat < Z.n from (by omega))
                                refine lv_aload_n hx hb dX11_arrive_230 rfl (lv_at hl 3 rfl) ?_
                                have al110 : Z.al 5 v7.toInt.toNat := hz.2 5 v7.toInt.toNat (show v7.toInt.toNat < 2 * Z.n from (by omega))
                                refine c_getr (a := Z.ad 5 v7.toInt.toNat) x L106 4 v7.toInt.toNat 1 al109 rfl rfl (wk_in kf_X11_85) dX11_arrive_231 ?_
                                refine lv_aload_n hx hb dX11_arrive_234 rfl (lv_at hl 0 rfl) ?_
                                have al111 : Z.al 34 0 := hz.2 34 0 (show 0 < 1 from (by omega))
                                refine c_getr (a := Z.ad 34 0) x L106 11 i0 6 al107 rfl rfl (wk_in kf_X11_16) dX11_arrive_235 ?_
                                refine c_ci (As := [.ref (Z.ad 34 0)]) (rest := []) x hml L106 5 v7.toInt.toNat al110 rfl (d_ktakeNext l (X + (10 * a37_5_13.toInt + 2 + a178_8_61.toInt)) g106 v7.toInt.toNat 0 ⟨by omega, by omega⟩ (show v7.toInt.toNat < 2 * Z.n from (by omega)) al111 hW) (wk_V kd_X5_takeNext kl_X11_159 ki_X5_takeNext ks_X5_X5_takeNext kn_X5) rfl ⟨rfl, rfl⟩ hd_ktakeNext ⟨Nat.le_of_ble_eq_true rfl, Nat.le_of_ble_eq_true rfl⟩ rfl hl.1 rfl (lv_room (Nat.le_of_ble_eq_true rfl)) dX11_arrive_238 (fun v113 g112 H112 k112 hp112 L112 => ?_) hcs
                                obtain ⟨hW, hi112, hp112⟩ := hp112
                                replace hW := wfP_i hW ⟨hi112, hp112⟩
                                have rv113 : rg (0) (60) v113 := hp112.2.1
                                have uv113 : (0 : Int) ≤ v113.toInt ∧ v113.toInt ≤ 60 := rv113
                                have L114 := cL.mono L112 (show _ ≤ (X + ((10 * a37_5_13.toInt + 2 + a178_8_61.toInt) + 1)) by omega)
                                refine lv_istore (lv' := [(7, .int v113), (0, .ref (Z.ad 11 i0)), (1, .int p1), (2, .ref (Z.ad 3 q2)), (3, .ref (Z.ad 4 v7.toInt.toNat)), (4, .int v30), (5, .int a37_5_13), (8, .int a178_8_61)]) hx hb dX11_arrive_241 hl (by decide) rfl (fun ls hl => ?_)
                                obtain ⟨v115, ev115, fv115⟩ := inc_ex a178_8_61 (1) (1 : Int32) (by decide)
                                have rv115 : rg (1) (8) v115 := (rg_add ev115 q69 kc_1 rfl).1
                                have tv115 := (rg_add ev115 q69 kc_1 rfl).2
                                have yv115 : (1 : Int32).toInt = 1 := by decide
                                replace hW := (wfP_i (wfP_i (wfP_i (wfP_a hW v115) ev115) rv115) (w_iadd tv115 rfl (rg_i kc_1)))
                                refine lv_iinc (v := v115) (lv' := [(8, .int v115), (7, .int v113), (0, .ref (Z.ad 11 i0)), (1, .int p1), (2, .ref (Z.ad 3 q2)), (3, .ref (Z.ad 4 v7.toInt.toNat)), (4, .int v30), (5, .int a37_5_13)]) hx hb dX11_arrive_243 hl (k := 7) rfl fv115 (by decide) rfl (fun ls hl => ?_)
                                refine lv_goto (tgt := 178) hx hb dX11_arrive_246 (by decide) ?_
                                exact ih62 _ (ms_up tv115 kc_1 q69 rfl rfl) v113 v115 Z g112 _ _ ls _ _ (mFr.tr (mFr.tr (mFr.tr hF62 hp103.1 rfl) hF106 rfl) hp112.1 rfl) (mFi.sub (mFi.tr (mFi.sub hI62 hi103 (mSub_eq 57 rfl (mSub_eq 58 rfl (mSub_eq 59 rfl (mSub_eq 60 rfl (mSub_eq 61 rfl (mSub_eq 62 rfl (mSub_eq 63 rfl (mSub_eq 64 rfl (mSub_eq 65 rfl mSub_nil)))))))))) hI106) hi112 (mSub_any 33 rfl (mSub_any 34 rfl (mSub_eq 84 rfl (mSub_any 86 rfl (mSub_any 87 rfl mSub_nil)))))) xa (cL.mono L114 (by omega)) hzl hcs (cJ_fr hJ106 hp112.1 rfl) (rg_w rv113 rfl) (rg_w rv115 rfl) hW (lv_sub hl [2, 3, 4, 5, 6, 7, 1, 0] rfl) rfl
                              refine lv_if_eq (tgt := 230) hx hb dX11_arrive_215 (by decide) (fun c215_116 => ?_) (fun c215_116 => ?_)
                              · skip
                                replace hW := wfP_i (wfP_l hW) (i_eq c215_116 rfl (rg_i kc_0))
                                have ic215_116 := congrArg Int32.toInt c215_116
                                have y117 : (0 : Int32).toInt = 0 := by decide
                                have q118 : rg (0) (0) v104 := (rg_eq c215_116 rv104 kc_0).1
                                have uq118 : (0 : Int) ≤ v104.toInt ∧ v104.toInt ≤ 0 := q118
                                exact j230_106  Z g103 _ _ ls _ _ mFr.rf mFi.rf xa (cL.mono L103 (by omega)) hzl hcs (cJ_fr hJ62 hp103.1 rfl)  hW (lv_sub hl [0, 1, 2, 3, 4, 5, 7] rfl)
                              · skip
                                replace hW := wfP_i (wfP_r hW) (i_ne c215_116 rfl (rg_i kc_0))
                                have ic215_116 : v104.toInt ≠ (0 : Int32).toInt := fun z => c215_116 (Int32.toInt_inj.mp z)
                                have y119 : (0 : Int32).toInt = 0 := by decide
                                have q120 : rg (1) (1) v104 := rg_neL c215_116 rv104 kc_0
                                have uq120 : (1 : Int) ≤ v104.toInt ∧ v104.toInt ≤ 1 := q120
                                refine lv_aload_n hx hb dX11_arrive_218 rfl (lv_at hl 3 rfl) ?_
                                refine lv_aload_n hx hb dX11_arrive_219 rfl (lv_at hl 0 rfl) ?_
                                refine c_getr (a := Z.ad 9 0) x L103 11 i0 5 al63 rfl rfl (wk_in kf_X11_12) dX11_arrive_220 ?_
                                refine lv_aload_n hx hb dX11_arrive_223 rfl (lv_at hl 0 rfl) ?_
                                refine c_geti x L103 11 i0 10 362 al63 rfl rfl (wk_in kf_X11_82) dX11_arrive_224 (fun v121 ev121 wv121 => ?_)
                                have rv121 : rg (-2147483648) (2147483647) v121 := rg_any v121
                                replace hW := (wfP_i (wfP_i (wfP_a hW v121) ev121) rv121)
                                have uv121 : (-2147483648 : Int) ≤ v121.toInt ∧ v121.toInt ≤ 2147483647 := rv121
                                have sv121 : v121.toInt = (g 362 i0).toInt := congrArg Int32.toInt (ev121.trans (congrFun ((show mFr [0, 1, 2, 32, 33, 34, 35, 36, 37, 38, 39, 40, 41, 42, 43, 44, 45, 46, 47, 48, 49, 67, 108, 109, 111, 135, 136, 164, 165, 166, 167, 168, 169, 170, 171, 172, 173, 174, 175, 176, 177, 178, 179, 180, 197, 198, 225, 226, 227, 228, 229, 230, 231, 232, 233, 234, 235, 288, 289, 290, 291, 292, 293, 294, 295, 296, 323, 384, 385, 386, 421, 422, 512, 544, 576, 768, 800, 832, 864, 928, 960, 992, 1024, 1056, 1088, 1248, 1280, 1344, 1536, 1728, 1729] g g103 from (mFr.tr (mFr.tr (mFr.tr (mFr.tr (mFr.tr (mFr.tr (mFr.tr (mFr.tr mFr.rf hF14 rfl) hp28.1 rfl) hp38.1 rfl) hp49.1 rfl) hF51 rfl) hp57.1 rfl) hF62 rfl) hp103.1 rfl)).at 362 rfl) _))
                                obtain ⟨n122_0, ho122, hW⟩ := wfP_e1 hW
                                have hz0122 := hzl.2.2.2.1
                                have hz1122 := hzl.2.2.2.2
                                refine k_callv xa L103 (k_runU (x := ⟨"CellSwitch$Side", "came", "(LCellSwitch$Signal;I)V"⟩) (As := [.ref (Z.ad 9 0), .int v121]) (rest := []) ⟨hx, hb, hml, x.2.2.2.2.1, x.2.2.1⟩ (d_kcame_4 l (X + (10 * a37_5_13.toInt + 2 + a178_8_61.toInt)) g103 v7.toInt.toNat 0 v121 _ n122_0 ⟨by omega, by omega⟩ (cJ_fr hJ62 hp103.1 rfl) (by omega) (show v7.toInt.toNat < Z.n from (by omega)) al74 (hw105 (by omega)) hW) (va_cwU 2 x.2.2.1 (wk_U (owner := "CellSwitch$Side") kd_X8_came kl_X11_167 km_CellSwitchSide_CellSwitchSide_came ks_X4_CellSwitchSide_X8_came ki_X8_came kn_X8) rfl rfl rfl rfl (by decide +kernel) ⟨Nat.le_of_ble_eq_true rfl, Nat.le_of_ble_eq_true rfl⟩) ⟨cPreA.blind, c_recv x L103 al65 rfl, fun U hU hW => k_pre xa L103 U hU hW⟩ rfl rfl hl.1 rfl (lv_room (Nat.le_of_ble_eq_true rfl)) dX11_arrive_227 ⟨show c62 + 2 ≤ a by omega, show l62 + (18 + n122_0) ≤ b by omega⟩) (fun  Z g122 H122 k122 kc122 kn122 hk122 hn122 hp122 hz122 xa L122 => ?_)
                                obtain ⟨hW, hi122, hp122⟩ := hp122
                                replace hW := wfP_i (wfP_a (wfP_i (wfP_i hW ⟨hi122, hp122⟩) (cZg_of hz122 hk122 hn122)) Z) rfl
                                have hww122 := hp122.2.2.1
                                have ea122_0 := hz122.2.2.1 11 i0 al63 (by omega)
                                have ea122_1 := hz122.2.2.1 3 q2 al64 (by omega)
                                have ea122_2 := hz122.2.2.1 4 v7.toInt.toNat al65 (by omega)
                                rw [← ea122_0] at hl
                                rw [← ea122_1] at hl
                                rw [← ea122_2] at hl
                                have al122_0 := hz122.2.1 11 i0 al63
                                have al122_1 := hz122.2.1 3 q2 al64
                                have al122_2 := hz122.2.1 4 v7.toInt.toNat al65
                                have hZn122 := hz122.1
                                have x := xa.1
                                have hz := x.2.2.2.2.2.2.2.1
                                have hzn := hz.1
                                have hzl := cZl.tr hzl hz122
                                have hcs : c62 + kc122 ≤ a ∧ l62 + kn122 ≤ b := by omega
                                exact j230_106  Z g122 _ _ ls _ _ (mFr.tr mFr.rf hp122.1 rfl) (mFi.sub mFi.rf hi122 (mSub_any 3 rfl (mSub_any 4 rfl (mSub_any 5 rfl (mSub_any 6 rfl (mSub_any 7 rfl (mSub_any 8 rfl (mSub_any 9 rfl (mSub_any 10 rfl (mSub_any 11 rfl (mSub_any 12 rfl (mSub_any 13 rfl (mSub_any 14 rfl (mSub_any 15 rfl (mSub_any 16 rfl (mSub_any 17 rfl (mSub_any 18 rfl (mSub_any 19 rfl (mSub_any 20 rfl (mSub_any 25 rfl (mSub_any 45 rfl (mSub_any 67 rfl (mSub_any 68 rfl (mSub_any 69 rfl (mSub_any 77 rfl (mSub_any 78 rfl (mSub_any 88 rfl (mSub_any 89 rfl (mSub_any 90 rfl mSub_nil))))))))))))))))))))))))))))) xa (cL.mono L122 (by omega)) hzl hcs hp122.2.1  hW (lv_sub hl [0, 1, 2, 3, 4, 5, 7] rfl)
                    have y123 : (0 : Int32).toInt = 0 := by decide
                    exact j178_62 _ v58 (0 : Int32) Z g57 _ _ ls _ _ mFr.rf mFi.rf xa (cL.mono L59 (by omega)) hzl hcs (cJ_fr hJ51 hp57.1 rfl) (rg_w rv58 rfl) (rg_w kc_0 rfl) hW (lv_sub hl [2, 3, 4, 5, 6, 7, 1, 0] rfl) rfl
                  refine lv_icmp_ne (tgt := 142) hx hb dX11_arrive_128 (by decide) (fun c128_124 => ?_) (fun c128_124 => ?_)
                  · skip
                    replace hW := wfP_i (wfP_l hW) (i_ne c128_124 rfl (rg_i kc_1))
                    have ic128_124 : v50.toInt ≠ (1 : Int32).toInt := fun z => c128_124 (Int32.toInt_inj.mp z)
                    have y125 : (1 : Int32).toInt = 1 := by decide
                    refine lv_iload hx hb dX11_arrive_142 (lv_at hl 0 rfl) ?_
                    refine lv_iconst (v := 2) hx hb dX11_arrive_144 (by decide) ?_
                    refine lv_icmp_ne (tgt := 162) hx hb dX11_arrive_145 (by decide) (fun c145_126 => ?_) (fun c145_126 => ?_)
                    · skip
                      replace hW := wfP_i (wfP_l hW) (i_ne c145_126 rfl (rg_i kc_2))
                      have ic145_126 : v50.toInt ≠ (2 : Int32).toInt := fun z => c145_126 (Int32.toInt_inj.mp z)
                      have y127 : (2 : Int32).toInt = 2 := by decide
                      have q128 : rg (0) (1) v50 := rg_neH c145_126 rv50 kc_2
                      have uq128 : (0 : Int) ≤ v50.toInt ∧ v50.toInt ≤ 1 := q128
                      exact j162_51  Z g49 _ _ ls _ _ mFr.rf mFi.rf xa (cL.mono L49 (by omega)) hzl hcs (cJ_fr hp38.2.2.1 hp49.1 rfl)  hW (lv_sub hl [2, 3, 4, 5, 1, 6] rfl)
                    · skip
                      replace hW := wfP_i (wfP_r hW) (i_eq c145_126 rfl (rg_i kc_2))
                      have ic145_126 := congrArg Int32.toInt c145_126
                      have y129 : (2 : Int32).toInt = 2 := by decide
                      have q130 : rg (2) (2) v50 := (rg_eq c145_126 rv50 kc_2).1
                      have uq130 : (2 : Int) ≤ v50.toInt ∧ v50.toInt ≤ 2 := q130
                      refine lv_aload_n hx hb dX11_arrive_148 rfl (lv_at hl 5 rfl) ?_
                      refine c_getr (a := Z.ad 5 v7.toInt.toNat) x L49 4 v7.toInt.toNat 1 al38_2 rfl rfl (wk_in kf_X11_85) dX11_arrive_149 ?_
                      refine lv_iconst (v := 3) hx hb dX11_arrive_152 (by decide) ?_
                      refine lv_bipush (v := 9) hx hb dX11_arrive_153 (by decide) ?_
                      refine lv_aload_n hx hb dX11_arrive_155 rfl (lv_at hl 2 rfl) ?_
                      refine c_geti x L49 11 i0 10 362 al38_0 rfl rfl (wk_in kf_X11_82) dX11_arrive_156 (fun v131 ev131 wv131 => ?_)
                      refine m_top (((mm_fr ev48 hp49.1 rfl)).trans ev131.symm) ?_
                      refine c_cv (As := [.int (3 : Int32), .int (9 : Int32), .int v48]) (rest := []) x hml L49 5 v7.toInt.toNat al44 rfl (d_kask l (X + ((10 * a37_5_13.toInt) + 1)) g49 v7.toInt.toNat (3 : Int32) (9 : Int32) v48 ⟨by omega, by omega⟩ (show v7.toInt.toNat < 2 * Z.n from (by omega)) (rg_w kc_3 rfl) hW) (wk_V kd_X5_ask kl_X11_155 ki_X5_ask ks_X5_X5_ask kn_X5) rfl ⟨rfl, rfl⟩ hd_kask ⟨Nat.le_of_ble_eq_true rfl, Nat.le_of_ble_eq_true rfl⟩ rfl hl.1 rfl (lv_room (Nat.le_of_ble_eq_true rfl)) dX11_arrive_159 (fun  g132 H132 k132 hp132 L132 => ?_) hcs
                      obtain ⟨hW, hi132, hp132⟩ := hp132
                      replace hW := wfP_i hW ⟨hi132, hp132⟩
                      exact j162_51  Z g132 _ _ ls _ _ (mFr.tr mFr.rf hp132.1 rfl) (mFi.sub mFi.rf hi132 (mSub_any 21 rfl (mSub_any 22 rfl (mSub_any 24 rfl (mSub_any 27 rfl (mSub_any 36 rfl (mSub_any 39 rfl (mSub_any 40 rfl (mSub_any 41 rfl (mSub_any 73 rfl (mSub_any 74 rfl (mSub_any 75 rfl mSub_nil)))))))))))) xa (cL.mono L132 (by omega)) hzl hcs (cJ_fr (cJ_fr hp38.2.2.1 hp49.1 rfl) hp132.1 rfl)  hW (lv_sub hl [2, 3, 4, 5, 1, 6] rfl)
                  · skip
                    replace hW := wfP_i (wfP_r hW) (i_eq c128_124 rfl (rg_i kc_1))
                    have ic128_124 := congrArg Int32.toInt c128_124
                    have y133 : (1 : Int32).toInt = 1 := by decide
                    have q134 : rg (1) (1) v50 := (rg_eq c128_124 rv50 kc_1).1
                    have uq134 : (1 : Int) ≤ v50.toInt ∧ v50.toInt ≤ 1 := q134
                    refine lv_aload_n hx hb dX11_arrive_131 rfl (lv_at hl 5 rfl) ?_
                    refine lv_aload_n hx hb dX11_arrive_132 rfl (lv_at hl 2 rfl) ?_
                    refine c_geti x L49 11 i0 10 362 al38_0 rfl rfl (wk_in kf_X11_82) dX11_arrive_133 (fun v135 ev135 wv135 => ?_)
                    refine m_top (((mm_fr ev48 hp49.1 rfl)).trans ev135.symm) ?_
                    refine c_cvU (n := 1) (owner := "CellSwitch$Side") (x0 := ⟨"CellSwitch$Side", "allOver", "(I)V"⟩) (As := [.int v48]) (rest := []) x hml L49 4 v7.toInt.toNat al38_2 rfl (d_kallOver_4 l (X + ((10 * a37_5_13.toInt) + 1)) g49 v7.toInt.toNat v48 ⟨by omega, by omega⟩ (cJ_fr hp38.2.2.1 hp49.1 rfl) (show v7.toInt.toNat < Z.n from (by omega)) hW) (wk_U kd_X8_allOver kl_X11_93 km_CellSwitchSide_CellSwitchSide_allOver ks_X4_CellSwitchSide_X8_allOver ki_X8_allOver kn_X8) rfl ⟨rfl, rfl⟩ rfl (by decide +kernel) ⟨Nat.le_of_ble_eq_true rfl, Nat.le_of_ble_eq_true rfl⟩ rfl hl.1 rfl (lv_room (Nat.le_of_ble_eq_true rfl)) dX11_arrive_136 (fun  g136 H136 k136 hp136 L136 => ?_) hcs
                    obtain ⟨hW, hi136, hp136⟩ := hp136
                    replace hW := wfP_i hW ⟨hi136, hp136⟩
                    refine lv_goto (tgt := 162) hx hb dX11_arrive_139 (by decide) ?_
                    exact j162_51  Z g136 _ _ ls _ _ (mFr.tr mFr.rf hp136.1 rfl) (mFi.sub mFi.rf hi136 (mSub_any 7 rfl (mSub_any 11 rfl (mSub_any 12 rfl (mSub_any 13 rfl (mSub_any 15 rfl (mSub_any 16 rfl (mSub_any 17 rfl (mSub_any 19 rfl (mSub_any 45 rfl (mSub_any 77 rfl (mSub_any 78 rfl mSub_nil)))))))))))) xa (cL.mono L136 (by omega)) hzl hcs hp136.2.1  hW (lv_sub hl [2, 3, 4, 5, 1, 6] rfl)
                · skip
                  replace hW := wfP_i (wfP_r hW) (i_eq c92_41 rfl (rg_i kc_0))
                  have ic92_41 := congrArg Int32.toInt c92_41
                  have y137 : (0 : Int32).toInt = 0 := by decide
                  have q138 : rg (0) (0) v39 := (rg_eq c92_41 rv39 kc_0).1
                  have uq138 : (0 : Int) ≤ v39.toInt ∧ v39.toInt ≤ 0 := q138
                  refine lv_goto (tgt := 249) hx hb dX11_arrive_95 (by decide) ?_
                  obtain ⟨v139, ev139, fv139⟩ := inc_ex a37_5_13 (1) (1 : Int32) (by decide)
                  have rv139 : rg (1) (212) v139 := (rg_add ev139 q20 kc_1 rfl).1
                  have tv139 := (rg_add ev139 q20 kc_1 rfl).2
                  have yv139 : (1 : Int32).toInt = 1 := by decide
                  replace hW := (wfP_i (wfP_i (wfP_i (wfP_a hW v139) ev139) rv139) (w_iadd tv139 rfl (rg_i kc_1)))
                  refine lv_iinc (v := v139) (lv' := [(5, .int v139), (4, .int v30), (0, .ref (Z.ad 11 i0)), (1, .int p1), (2, .ref (Z.ad 3 q2)), (3, .ref (Z.ad 4 v7.toInt.toNat))]) hx hb dX11_arrive_249 hl (k := 5) rfl fv139 (by decide) rfl (fun ls hl => ?_)
                  refine lv_goto (tgt := 37) hx hb dX11_arrive_252 (by decide) ?_
                  exact ih14 _ (ms_up tv139 kc_1 q20 rfl rfl) v30 v139 Z g38 _ _ ls _ _ (mFr.tr (mFr.tr hF14 hp28.1 rfl) hp38.1 rfl) (mFi.sub (mFi.sub hI14 hi28 (mSub_eq 46 rfl (mSub_eq 47 rfl (mSub_eq 48 rfl (mSub_eq 49 rfl (mSub_eq 50 rfl (mSub_eq 51 rfl (mSub_eq 52 rfl (mSub_eq 53 rfl (mSub_eq 54 rfl (mSub_eq 55 rfl (mSub_eq 56 rfl (mSub_eq 76 rfl mSub_nil))))))))))))) hi38 (mSub_any 0 rfl (mSub_any 1 rfl (mSub_any 2 rfl (mSub_any 17 rfl (mSub_any 21 rfl (mSub_any 22 rfl (mSub_eq 23 rfl (mSub_any 26 rfl (mSub_any 72 rfl (mSub_any 73 rfl (mSub_any 74 rfl (mSub_any 80 rfl (mSub_any 81 rfl (mSub_any 82 rfl (mSub_any 83 rfl mSub_nil)))))))))))))))) xa (cL.mono L40 (by omega)) hzl hcs hp38.2.2.1 (rg_w rv30 rfl) (rg_w rv139 rfl) hW (lv_sub hl [2, 3, 4, 5, 1, 0] rfl) rfl
      have y140 : (0 : Int32).toInt = 0 := by decide
      have y141 : (0 : Int32).toInt = 0 := by decide
      exact j37_14 _ (0 : Int32) (0 : Int32) Z g _ _ ls _ _ mFr.rf mFi.rf xa (cL.mono L (by omega)) hzl hcs hJ (rg_w kc_0 rfl) (rg_w kc_0 rfl) hW (lv_sub hl [3, 4, 5, 2, 1, 0] rfl) rfl
    · skip
      replace hW := wfP_i (wfP_r hW) hc9
      exfalso; omega
  · skip
    replace hW := wfP_i (wfP_r hW) (i_eq c3_3 rfl (rg_i kc_0))
    have ic3_3 := congrArg Int32.toInt c3_3
    have y142 : (0 : Int32).toInt = 0 := by decide
    have q143 : rg (0) (0) v1 := (rg_eq c3_3 rv1 kc_0).1
    have uq143 : (0 : Int) ≤ v1.toInt ∧ v1.toInt ≤ 0 := q143
    refine lv_aload_n hx hb dX11_arrive_6 rfl (lv_at hl 0 rfl) ?_
    have al144 : Z.al 52 0 := hz.2 52 0 (show 0 < 1 from (by omega))
    refine c_getr (a := Z.ad 52 0) x L 11 i0 4 ha_0 rfl rfl (wk_in kf_X11_71) dX11_arrive_7 ?_
    refine lv_aload_n hx hb dX11_arrive_10 rfl (lv_at hl 0 rfl) ?_
    refine c_getc x L 11 i0 0 ha_0 rfl (wk_in kf_X11_55) dX11_arrive_11 (fun v145 ev145 => ?_)
    have tv145 : v145.toInt = (Z.n : Int) := cCv_11 ev145 hzn
    have rv145 : rg (2) (4) v145 := ⟨by omega, by omega⟩
    replace hW := (wfP_i (wfP_i (wfP_a hW v145) tv145) rv145)
    refine lv_iload_n hx hb dX11_arrive_14 rfl (lv_at hl 1 rfl) ?_
    refine lv_iconst (v := 2) hx hb dX11_arrive_15 (by decide) ?_
    refine lv_idiv hx hb dX11_arrive_16 (by decide) ?_
    refine lv_topi (fun v146 ev146 => ?_)
    have rv146 : rg (0) (3) v146 := (rg_div ev146 rp1 kc_2 rfl).1
    replace hW := (wfP_i (wfP_i (wfP_i (wfP_a hW v146) ev146) rv146) ((rg_div ev146 rp1 kc_2 rfl).2))
    have tv146 := (rg_div ev146 rp1 kc_2 rfl).2
    have y147 : (2 : Int32).toInt = 2 := by decide
    have uv146 : (0 : Int) ≤ v146.toInt ∧ v146.toInt ≤ 3 := rv146
    refine lv_iadd hx hb dX11_arrive_17 ?_
    refine lv_topi (fun v148 ev148 => ?_)
    have rv148 : rg (2) (7) v148 := (rg_add ev148 rv145 rv146 rfl).1
    replace hW := (wfP_i (wfP_i (wfP_i (wfP_a hW v148) ev148) rv148) (w_iadd ((rg_add ev148 rv145 rv146 rfl).2) rfl rfl))
    have tv148 := (rg_add ev148 rv145 rv146 rfl).2
    have uv148 : (2 : Int) ≤ v148.toInt ∧ v148.toInt ≤ 7 := rv148
    rcases Nat.lt_or_ge v148.toInt.toNat Z.n with hc149 | hc149
    · skip
      replace hW := wfP_i (wfP_l hW) hc149
      exfalso; omega
    · skip
      replace hW := wfP_i (wfP_r hW) hc149
      have al151 : Z.al 10 (v148.toInt.toNat - Z.n) := hz.2 10 (v148.toInt.toNat - Z.n) (show (v148.toInt.toNat - Z.n) < Z.n from (by omega))
      refine c_ldr (a := Z.ad 10 (v148.toInt.toNat - Z.n)) x L 52 0 al144 rfl (by omega) (show v148.toInt < (((2 * Z.n) : Nat) : Int) from (by omega)) (by show some (cSd Z v148.toInt.toNat) = _; unfold cSd; rw [if_neg (Nat.not_lt.mpr hc149)]) dX11_arrive_18 ?_
      refine lv_goto (tgt := 30) hx hb dX11_arrive_19 (by decide) ?_
      obtain ⟨sx152, hsx152⟩ : ∃ y : Nat, y = (v148.toInt.toNat - Z.n) := ⟨_, rfl⟩
      rw [← hsx152]
      replace hW := (wfP_i (wfP_a hW sx152) hsx152)
      have al153 : Z.al 10 sx152 := hz.2 10 sx152 (show sx152 < Z.n from (by omega))
      refine lv_astore_n (lv' := [(3, .ref (Z.ad 10 sx152)), (0, .ref (Z.ad 11 i0)), (1, .int p1), (2, .ref (Z.ad 3 q2))]) hx hb dX11_arrive_30 rfl hl (by decide) rfl (fun ls hl => ?_)
      refine lv_iconst (v := 0) hx hb dX11_arrive_31 (by decide) ?_
      refine lv_istore (lv' := [(4, .int (0 : Int32)), (3, .ref (Z.ad 10 sx152)), (0, .ref (Z.ad 11 i0)), (1, .int p1), (2, .ref (Z.ad 3 q2))]) hx hb dX11_arrive_32 hl (by decide) rfl (fun ls hl => ?_)
      refine lv_iconst (v := 0) hx hb dX11_arrive_34 (by decide) ?_
      refine lv_istore (lv' := [(5, .int (0 : Int32)), (4, .int (0 : Int32)), (3, .ref (Z.ad 10 sx152)), (0, .ref (Z.ad 11 i0)), (1, .int p1), (2, .ref (Z.ad 3 q2))]) hx hb dX11_arrive_35 hl (by decide) rfl (fun ls hl => ?_)
      obtain ⟨P156, hP156, hW⟩ := wfP_ex hW
      have j37_156 : ∀ (n : Nat) (a37_4_154 a37_5_155 : Int32) (Z : cZ) (g156 : mSt) (H156 : Heap) (k156 : List Loc) (ls : Array Slot) (c156 l156 : Nat), mFr [0, 1, 2, 32, 33, 34, 35, 36, 37, 38, 39, 40, 41, 42, 43, 44, 45, 46, 47, 48, 49, 67, 108, 109, 111, 135, 136, 164, 165, 166, 167, 168, 169, 170, 171, 172, 173, 174, 175, 176, 177, 178, 179, 180, 197, 198, 225, 226, 227, 228, 229, 230, 231, 232, 233, 234, 235, 288, 289, 290, 291, 292, 293, 294, 295, 296, 323, 384, 385, 386, 421, 422, 512, 544, 576, 768, 800, 832, 864, 928, 960, 992, 1024, 1056, 1088, 1248, 1280, 1344, 1536, 1728, 1729] g g156 → mFi (im_karrive i0 p1 q2) g g156 → cXA p c cX11_arrive s args (wk (Cond.code yX11_arrive cX11_arrive 9 none)) m G Z A RX11 H0 → cL G Z A H0 (X + (10 * a37_5_155.toInt)) g156 H156 k156 → cZl Z0 Z c156 l156 → (c156 ≤ a ∧ l156 ≤ b) → cJ Z g156 → rg (-2147483648) (2147483647) a37_4_154 → rg (0) (212) a37_5_155 → wfP (P156 a37_4_154 a37_5_155 Z g156) → lv_has ls 9 [(0, .ref (Z.ad 11 i0)), (1, .int p1), (2, .ref (Z.ad 3 q2)), (3, .ref (Z.ad 10 sx152)), (4, .int a37_4_154), (5, .int a37_5_155)] → ((212 : Int) - a37_5_155.toInt).toNat = n → W p l e (rm_karrive a b) s m args below meth c H156 k156 c156 l156 Q (F0 m 37 ls []) := by
        intro n
        induction n using Nat.strongRecOn with
        | _ n ih156 =>
          intro a37_4_154 a37_5_155 Z g156 H156 k156 ls c156 l156 hF156 hI156 xa L156 hzl hcs hJ156 ra37_4_154 ra37_5_155 hW hl hn156
          subst hn156
          have x := xa.1
          have hz := x.2.2.2.2.2.2.2.1
          have hzn := hz.1
          have hZn156 := hzl.1
          replace hW := wfP_i (wfP_i (wfP_i (wfP_i (wfP_i (wfP_i (wfP_i (wfP_a (wfP_a (wfP_a (wfP_a hP156 a37_4_154) a37_5_155) Z) g156) hF156) hI156) hJ156) hzl.1) ra37_4_154) ra37_5_155) hW
          have ua37_4_154 : (-2147483648 : Int) ≤ a37_4_154.toInt ∧ a37_4_154.toInt ≤ 2147483647 := ra37_4_154
          have ua37_5_155 : (0 : Int) ≤ a37_5_155.toInt ∧ a37_5_155.toInt ≤ 212 := ra37_5_155
          have al157 := hzl.2.1 11 i0 hal0
          have al158 := hzl.2.1 3 q2 hq2
          have al159 : Z.al 10 sx152 := hz.2 10 sx152 (show sx152 < Z.n from (by omega))
          refine lv_iload hx hb dX11_arrive_37 (lv_at hl 5 rfl) ?_
          refine lv_sipush (v := 212) hx hb dX11_arrive_39 (by decide) ?_
          refine lv_icmp_ge (tgt := 255) hx hb dX11_arrive_42 (by decide) (fun c42_160 => ?_) (fun c42_160 => ?_)
          · skip
            replace hW := wfP_i (wfP_l hW) (i_le c42_160 (rg_i kc_212) rfl)
            have ic42_160 := Int32.le_iff_toInt_le.mp c42_160
            have q161 : rg (212) (212) a37_5_155 := (rg_le c42_160 kc_212 ra37_5_155).2
            have uq161 : (212 : Int) ≤ a37_5_155.toInt ∧ a37_5_155.toInt ≤ 212 := q161
            exact hQ _ _ Z _ _ _ _ _ dX11_arrive_255 xa (cL.mono L156 (by omega)) hzl hcs ⟨hW, (mFi.tr mFi.rf hI156), (mFr.tr mFr.rf hF156 rfl), hJ156, trivial⟩
          · skip
            replace hW := wfP_i (wfP_r hW) (i_lt (rg_nle c42_160) rfl (rg_i kc_212))
            have ic42_160 := Int32.lt_iff_toInt_lt.mp (rg_nle c42_160)
            have q162 : rg (0) (211) a37_5_155 := (rg_lt (rg_nle c42_160) ra37_5_155 kc_212).1
            have uq162 : (0 : Int) ≤ a37_5_155.toInt ∧ a37_5_155.toInt ≤ 211 := q162
            refine lv_iload hx hb dX11_arrive_45 (lv_at hl 4 rfl) ?_
            refine lv_aload_n hx hb dX11_arrive_47 rfl (lv_at hl 2 rfl) ?_
            refine c_geti x L156 3 q2 5 101 al158 rfl rfl (wk_in kf_X11_116) dX11_arrive_48 (fun v163 ev163 wv163 => ?_)
            have rv163 : rg (0) (212) v163 := clj_101 wv163
            replace hW := (wfP_i (wfP_i (wfP_a hW v163) ev163) rv163)
            have uv163 : (0 : Int) ≤ v163.toInt ∧ v163.toInt ≤ 212 := rv163
            have sv163 : v163.toInt = (g 101 q2).toInt := congrArg Int32.toInt (ev163.trans (congrFun ((show mFr [0, 1, 2, 32, 33, 34, 35, 36, 37, 38, 39, 40, 41, 42, 43, 44, 45, 46, 47, 48, 49, 67, 108, 109, 111, 135, 136, 164, 165, 166, 167, 168, 169, 170, 171, 172, 173, 174, 175, 176, 177, 178, 179, 180, 197, 198, 225, 226, 227, 228, 229, 230, 231, 232, 233, 234, 235, 288, 289, 290, 291, 292, 293, 294, 295, 296, 323, 384, 385, 386, 421, 422, 512, 544, 576, 768, 800, 832, 864, 928, 960, 992, 1024, 1056, 1088, 1248, 1280, 1344, 1536, 1728, 1729] g g156 from (mFr.tr mFr.rf hF156 rfl)).at 101 rfl) _))
            refine lv_icmp_ge (tgt := 255) hx hb dX11_arrive_51 (by decide) (fun c51_164 => ?_) (fun c51_164 => ?_)
            · skip
              replace hW := wfP_i (wfP_l hW) (i_le c51_164 rfl rfl)
              have ic51_164 := Int32.le_iff_toInt_le.mp c51_164
              have q165 : rg (0) (2147483647) a37_4_154 := (rg_le c51_164 rv163 ra37_4_154).2
              have uq165 : (0 : Int) ≤ a37_4_154.toInt ∧ a37_4_154.toInt ≤ 2147483647 := q165
              exact hQ _ _ Z _ _ _ _ _ dX11_arrive_255 xa (cL.mono L156 (by omega)) hzl hcs ⟨hW, (mFi.tr mFi.rf hI156), (mFr.tr mFr.rf hF156 rfl), hJ156, trivial⟩
            · skip
              replace hW := wfP_i (wfP_r hW) (i_lt (rg_nle c51_164) rfl rfl)
              have ic51_164 := Int32.lt_iff_toInt_lt.mp (rg_nle c51_164)
              have q166 : rg (-2147483648) (211) a37_4_154 := (rg_lt (rg_nle c51_164) ra37_4_154 rv163).1
              have uq166 : (-2147483648 : Int) ≤ a37_4_154.toInt ∧ a37_4_154.toInt ≤ 211 := q166
              refine lv_iload hx hb dX11_arrive_54 (lv_at hl 4 rfl) ?_
              refine lv_aload_n hx hb dX11_arrive_56 rfl (lv_at hl 2 rfl) ?_
              have al167 : Z.al 7 q2 := hz.2 7 q2 (show q2 < 2 * Z.n from (by omega))
              refine c_getr (a := Z.ad 7 q2) x L156 3 q2 2 al158 rfl rfl (wk_in kf_X11_119) dX11_arrive_57 ?_
              refine lv_aload_n hx hb dX11_arrive_60 rfl (lv_at hl 2 rfl) ?_
              have al168 : Z.al 19 q2 := hz.2 19 q2 (show q2 < 2 * Z.n from (by omega))
              refine c_getr (a := Z.ad 19 q2) x L156 3 q2 4 al158 rfl rfl (wk_in kf_X11_123) dX11_arrive_61 ?_
              refine lv_iload hx hb dX11_arrive_64 (lv_at hl 4 rfl) ?_
              refine lv_aload_n hx hb dX11_arrive_66 rfl (lv_at hl 2 rfl) ?_
              refine c_geti x L156 3 q2 5 101 al158 rfl rfl (wk_in kf_X11_116) dX11_arrive_67 (fun v169 ev169 wv169 => ?_)
              refine m_top ((ev163).trans ev169.symm) ?_
              refine c_ci (As := [.ref (Z.ad 19 q2), .int a37_4_154, .int v163]) (rest := [.int a37_4_154]) x hml L156 7 q2 al167 rfl (d_ktake l (X + (10 * a37_5_155.toInt)) g156 q2 q2 a37_4_154 v163 ⟨by omega, by omega⟩ hJ156 (show q2 < 2 * Z.n from (by omega)) al168 hW) (wk_V kd_X7_take kl_X11_126 ki_X7_take ks_X7_X7_take kn_X7) rfl ⟨rfl, rfl⟩ hd_ktake ⟨Nat.le_of_ble_eq_true rfl, Nat.le_of_ble_eq_true rfl⟩ rfl hl.1 rfl (lv_room (Nat.le_of_ble_eq_true rfl)) dX11_arrive_70 (fun v171 g170 H170 k170 hp170 L170 => ?_) hcs
              obtain ⟨hW, hi170, hp170⟩ := hp170
              replace hW := wfP_i hW ⟨hi170, hp170⟩
              have rv171 : rg (-210) (48) v171 := hp170.2.1
              have uv171 : (-210 : Int) ≤ v171.toInt ∧ v171.toInt ≤ 48 := rv171
              refine lv_iadd hx hb dX11_arrive_73 ?_
              refine lv_topi (fun v172 ev172 => ?_)
              have rv172 : rg (-2147483648) (2147483647) v172 := rg_any v172
              replace hW := (wfP_i (wfP_i (wfP_a hW v172) ev172) rv172)
              have uv172 : (-2147483648 : Int) ≤ v172.toInt ∧ v172.toInt ≤ 2147483647 := rv172
              refine lv_istore (lv' := [(4, .int v172), (0, .ref (Z.ad 11 i0)), (1, .int p1), (2, .ref (Z.ad 3 q2)), (3, .ref (Z.ad 10 sx152)), (5, .int a37_5_155)]) hx hb dX11_arrive_74 hl (by decide) rfl (fun ls hl => ?_)
              refine lv_aload_n hx hb dX11_arrive_76 rfl (lv_at hl 3 rfl) ?_
              refine c_getr (a := Z.ad 7 q2) x L170 3 q2 2 al158 rfl rfl (wk_in kf_X11_119) dX11_arrive_77 ?_
              refine c_geti x L170 7 q2 11 235 al167 rfl rfl (wk_in kf_X11_132) dX11_arrive_80 (fun v173 ev173 wv173 => ?_)
              have rv173 : rg (0) (1) v173 := clj_235 wv173
              replace hW := (wfP_i (wfP_i (wfP_a hW v173) ev173) rv173)
              have uv173 : (0 : Int) ≤ v173.toInt ∧ v173.toInt ≤ 1 := rv173
              refine lv_if_eq (tgt := 249) hx hb dX11_arrive_83 (by decide) (fun c83_174 => ?_) (fun c83_174 => ?_)
              · skip
                replace hW := wfP_i (wfP_l hW) (i_eq c83_174 rfl (rg_i kc_0))
                have ic83_174 := congrArg Int32.toInt c83_174
                have y175 : (0 : Int32).toInt = 0 := by decide
                have q176 : rg (0) (0) v173 := (rg_eq c83_174 rv173 kc_0).1
                have uq176 : (0 : Int) ≤ v173.toInt ∧ v173.toInt ≤ 0 := q176
                obtain ⟨v177, ev177, fv177⟩ := inc_ex a37_5_155 (1) (1 : Int32) (by decide)
                have rv177 : rg (1) (212) v177 := (rg_add ev177 q162 kc_1 rfl).1
                have tv177 := (rg_add ev177 q162 kc_1 rfl).2
                have yv177 : (1 : Int32).toInt = 1 := by decide
                replace hW := (wfP_i (wfP_i (wfP_i (wfP_a hW v177) ev177) rv177) (w_iadd tv177 rfl (rg_i kc_1)))
                refine lv_iinc (v := v177) (lv' := [(5, .int v177), (4, .int v172), (0, .ref (Z.ad 11 i0)), (1, .int p1), (2, .ref (Z.ad 3 q2)), (3, .ref (Z.ad 10 sx152))]) hx hb dX11_arrive_249 hl (k := 5) rfl fv177 (by decide) rfl (fun ls hl => ?_)
                refine lv_goto (tgt := 37) hx hb dX11_arrive_252 (by decide) ?_
                exact ih156 _ (ms_up tv177 kc_1 q162 rfl rfl) v172 v177 Z g170 _ _ ls _ _ (mFr.tr hF156 hp170.1 rfl) (mFi.sub hI156 hi170 (mSub_eq 46 rfl (mSub_eq 47 rfl (mSub_eq 48 rfl (mSub_eq 49 rfl (mSub_eq 50 rfl (mSub_eq 51 rfl (mSub_eq 52 rfl (mSub_eq 53 rfl (mSub_eq 54 rfl (mSub_eq 55 rfl (mSub_eq 56 rfl (mSub_eq 76 rfl mSub_nil))))))))))))) xa (cL.mono L170 (by omega)) hzl hcs hp170.2.2.1 (rg_w rv172 rfl) (rg_w rv177 rfl) hW (lv_sub hl [2, 3, 4, 5, 1, 0] rfl) rfl
              · skip
                replace hW := wfP_i (wfP_r hW) (i_ne c83_174 rfl (rg_i kc_0))
                have ic83_174 : v173.toInt ≠ (0 : Int32).toInt := fun z => c83_174 (Int32.toInt_inj.mp z)
                have y178 : (0 : Int32).toInt = 0 := by decide
                have q179 : rg (1) (1) v173 := rg_neL c83_174 rv173 kc_0
                have uq179 : (1 : Int) ≤ v173.toInt ∧ v173.toInt ≤ 1 := q179
                refine lv_aload_n hx hb dX11_arrive_86 rfl (lv_at hl 1 rfl) ?_
                refine lv_iload_n hx hb dX11_arrive_87 rfl (lv_at hl 2 rfl) ?_
                refine lv_aload_n hx hb dX11_arrive_88 rfl (lv_at hl 3 rfl) ?_
                obtain ⟨ho180, hW⟩ := wfP_e0 hW
                have hz0180 := hzl.2.2.2.1
                have hz1180 := hzl.2.2.2.2
                refine k_calli xa L170 (k_runV (As := [.int p1, .ref (Z.ad 3 q2)]) (rest := []) ⟨hx, hb, hml, x.2.2.2.2.1, x.2.2.1⟩ (d_kcellCame l (X + (10 * a37_5_155.toInt)) g170 i0 p1 q2 _ ⟨by omega, by omega⟩ hp170.2.2.1 (by omega) al157 (rg_w rp1 rfl) al158 (by omega) hW) (cwV 2 x.2.2.1 (wk_V kd_X11_cellCame kl_X11_136 ki_X11_cellCame ks_X11_X11_cellCame kn_X11) rfl rfl rfl hd_kcellCame ⟨Nat.le_of_ble_eq_true rfl, Nat.le_of_ble_eq_true rfl⟩) ⟨cPreA.blind, c_recv x L170 al157 rfl, fun U hU hW => k_pre xa L170 U hU hW⟩ rfl rfl hl.1 rfl (lv_room (Nat.le_of_ble_eq_true rfl)) dX11_arrive_89 ⟨show c156 + 2 ≤ a by omega, show l156 + (243) ≤ b by omega⟩) (fun v181 Z g180 H180 k180 kc180 kn180 hk180 hn180 hp180 hz180 xa L180 => ?_)
                obtain ⟨hW, hi180, hp180⟩ := hp180
                replace hW := wfP_i (wfP_a (wfP_i (wfP_i hW ⟨hi180, hp180⟩) (cZg_of hz180 hk180 hn180)) Z) rfl
                have rv181 : rg (0) (1) v181 := hp180.2.1
                have uv181 : (0 : Int) ≤ v181.toInt ∧ v181.toInt ≤ 1 := rv181
                have hww180 := hp180.2.2.2.1
                have ea180_0 := hz180.2.2.1 11 i0 al157 (by omega)
                have ea180_1 := hz180.2.2.1 3 q2 al158 (by omega)
                have ea180_2 := hz180.2.2.1 10 sx152 al159 (by omega)
                rw [← ea180_0] at hl
                rw [← ea180_1] at hl
                rw [← ea180_2] at hl
                have al180_0 := hz180.2.1 11 i0 al157
                have al180_1 := hz180.2.1 3 q2 al158
                have al180_2 := hz180.2.1 10 sx152 al159
                have hZn180 := hz180.1
                have x := xa.1
                have hz := x.2.2.2.2.2.2.2.1
                have hzn := hz.1
                have hzl := cZl.tr hzl hz180
                have hcs : c156 + kc180 ≤ a ∧ l156 + kn180 ≤ b := by omega
                have L182 := cL.mono L180 (show _ ≤ (X + ((10 * a37_5_155.toInt) + 1)) by omega)
                refine lv_if_ne (tgt := 98) hx hb dX11_arrive_92 (by decide) (fun c92_183 => ?_) (fun c92_183 => ?_)
                · skip
                  replace hW := wfP_i (wfP_l hW) (i_ne c92_183 rfl (rg_i kc_0))
                  have ic92_183 : v181.toInt ≠ (0 : Int32).toInt := fun z => c92_183 (Int32.toInt_inj.mp z)
                  have y184 : (0 : Int32).toInt = 0 := by decide
                  have q185 : rg (1) (1) v181 := rg_neL c92_183 rv181 kc_0
                  have uq185 : (1 : Int) ≤ v181.toInt ∧ v181.toInt ≤ 1 := q185
                  refine lv_aload_n hx hb dX11_arrive_98 rfl (lv_at hl 4 rfl) ?_
                  have al186 : Z.al 5 (Z.n + sx152) := hz.2 5 (Z.n + sx152) (show (Z.n + sx152) < 2 * Z.n from (by omega))
                  refine c_getr (a := Z.ad 5 (Z.n + sx152)) x L182 10 sx152 1 al180_2 rfl rfl (wk_in kf_X11_85) dX11_arrive_99 ?_
                  refine lv_aload_n hx hb dX11_arrive_102 rfl (lv_at hl 3 rfl) ?_
                  have al187 : Z.al 0 q2 := hz.2 0 q2 (show q2 < 2 * Z.n from (by omega))
                  refine c_getr (a := Z.ad 0 q2) x L182 3 q2 3 al180_1 rfl rfl (wk_in kf_X11_140) dX11_arrive_103 ?_
                  have al188 : Z.al 16 q2 := hz.2 16 q2 (show q2 < 2 * Z.n from (by omega))
                  refine c_getr (a := Z.ad 16 q2) x L182 0 q2 0 al187 rfl rfl (wk_in kf_X11_144) dX11_arrive_106 ?_
                  refine lv_aload_n hx hb dX11_arrive_109 rfl (lv_at hl 3 rfl) ?_
                  refine c_getr (a := Z.ad 0 q2) x L182 3 q2 3 al180_1 rfl rfl (wk_in kf_X11_140) dX11_arrive_110 ?_
                  refine c_geti x L182 0 q2 2 2 al187 rfl rfl (wk_in kf_X11_149) dX11_arrive_113 (fun v189 ev189 wv189 => ?_)
                  have rv189 : rg (-2147483648) (2147483647) v189 := rg_any v189
                  replace hW := (wfP_i (wfP_i (wfP_a hW v189) ev189) rv189)
                  have uv189 : (-2147483648 : Int) ≤ v189.toInt ∧ v189.toInt ≤ 2147483647 := rv189
                  refine lv_aload_n hx hb dX11_arrive_116 rfl (lv_at hl 1 rfl) ?_
                  refine c_geti x L182 11 i0 10 362 al180_0 rfl rfl (wk_in kf_X11_82) dX11_arrive_117 (fun v190 ev190 wv190 => ?_)
                  have rv190 : rg (-2147483648) (2147483647) v190 := rg_any v190
                  replace hW := (wfP_i (wfP_i (wfP_a hW v190) ev190) rv190)
                  have uv190 : (-2147483648 : Int) ≤ v190.toInt ∧ v190.toInt ≤ 2147483647 := rv190
                  have sv190 : v190.toInt = (g 362 i0).toInt := congrArg Int32.toInt (ev190.trans (congrFun ((show mFr [0, 1, 2, 32, 33, 34, 35, 36, 37, 38, 39, 40, 41, 42, 43, 44, 45, 46, 47, 48, 49, 67, 108, 109, 111, 135, 136, 164, 165, 166, 167, 168, 169, 170, 171, 172, 173, 174, 175, 176, 177, 178, 179, 180, 197, 198, 225, 226, 227, 228, 229, 230, 231, 232, 233, 234, 235, 288, 289, 290, 291, 292, 293, 294, 295, 296, 323, 384, 385, 386, 421, 422, 512, 544, 576, 768, 800, 832, 864, 928, 960, 992, 1024, 1056, 1088, 1248, 1280, 1344, 1536, 1728, 1729] g g180 from (mFr.tr (mFr.tr (mFr.tr mFr.rf hF156 rfl) hp170.1 rfl) hp180.1 rfl)).at 362 rfl) _))
                  refine c_ci (As := [.ref (Z.ad 16 q2), .int v189, .int v190]) (rest := []) x hml L182 5 (Z.n + sx152) al186 rfl (d_kunitCame l (X + ((10 * a37_5_155.toInt) + 1)) g180 (Z.n + sx152) q2 v189 v190 ⟨by omega, by omega⟩ (show (Z.n + sx152) < 2 * Z.n from (by omega)) al188 hW) (wk_V kd_X5_unitCame kl_X11_152 ki_X5_unitCame ks_X5_X5_unitCame kn_X5) rfl ⟨rfl, rfl⟩ hd_kunitCame ⟨Nat.le_of_ble_eq_true rfl, Nat.le_of_ble_eq_true rfl⟩ rfl hl.1 rfl (lv_room (Nat.le_of_ble_eq_true rfl)) dX11_arrive_120 (fun v192 g191 H191 k191 hp191 L191 => ?_) hcs
                  obtain ⟨hW, hi191, hp191⟩ := hp191
                  replace hW := wfP_i hW ⟨hi191, hp191⟩
                  have rv192 : rg (0) (2) v192 := hp191.2.1
                  have uv192 : (0 : Int) ≤ v192.toInt ∧ v192.toInt ≤ 2 := rv192
                  refine lv_istore (lv' := [(6, .int v192), (4, .int v172), (0, .ref (Z.ad 11 i0)), (1, .int p1), (2, .ref (Z.ad 3 q2)), (3, .ref (Z.ad 10 sx152)), (5, .int a37_5_155)]) hx hb dX11_arrive_123 hl (by decide) rfl (fun ls hl => ?_)
                  refine lv_iload hx hb dX11_arrive_125 (lv_at hl 0 rfl) ?_
                  refine lv_iconst (v := 1) hx hb dX11_arrive_127 (by decide) ?_
                  obtain ⟨P193, hP193, hW⟩ := wfP_ex hW
                  have j162_193 : ∀ (Z : cZ) (g193 : mSt) (H193 : Heap) (k193 : List Loc) (ls : Array Slot) (c193 l193 : Nat), mFr [36, 40, 41, 42, 44, 45, 46, 48, 67, 108, 111, 164, 173, 176, 177, 178, 198, 544, 576, 768, 832, 864] g191 g193 → mFi (im_karrive i0 p1 q2) g191 g193 → cXA p c cX11_arrive s args (wk (Cond.code yX11_arrive cX11_arrive 9 none)) m G Z A RX11 H0 → cL G Z A H0 (X + (10 * a37_5_155.toInt + 1)) g193 H193 k193 → cZl Z0 Z c193 l193 → (c193 ≤ a ∧ l193 ≤ b) → cJ Z g193 → wfP (P193 Z g193) → lv_has ls 9 [(0, .ref (Z.ad 11 i0)), (1, .int p1), (2, .ref (Z.ad 3 q2)), (3, .ref (Z.ad 10 sx152)), (4, .int v172), (5, .int a37_5_155)] → W p l e (rm_karrive a b) s m args below meth c H193 k193 c193 l193 Q (F0 m 162 ls []) := by
                    intro  Z g193 H193 k193 ls c193 l193 hF193 hI193 xa L193 hzl hcs hJ193  hW hl
                    have x := xa.1
                    have hz := x.2.2.2.2.2.2.2.1
                    have hzn := hz.1
                    have hZn193 := hzl.1
                    replace hW := wfP_i (wfP_i (wfP_i (wfP_i (wfP_i (wfP_a (wfP_a hP193 Z) g193) hF193) hI193) hJ193) hzl.1) hW
                    have al194 := hzl.2.1 11 i0 hal0
                    have al195 := hzl.2.1 3 q2 hq2
                    have al196 : Z.al 10 sx152 := hz.2 10 sx152 (show sx152 < Z.n from (by omega))
                    refine lv_aload_n hx hb dX11_arrive_162 rfl (lv_at hl 3 rfl) ?_
                    have al197 : Z.al 5 (Z.n + sx152) := hz.2 5 (Z.n + sx152) (show (Z.n + sx152) < 2 * Z.n from (by omega))
                    refine c_getr (a := Z.ad 5 (Z.n + sx152)) x L193 10 sx152 1 al196 rfl rfl (wk_in kf_X11_85) dX11_arrive_163 ?_
                    refine lv_aload_n hx hb dX11_arrive_166 rfl (lv_at hl 0 rfl) ?_
                    have al198 : Z.al 34 0 := hz.2 34 0 (show 0 < 1 from (by omega))
                    refine c_getr (a := Z.ad 34 0) x L193 11 i0 6 al194 rfl rfl (wk_in kf_X11_16) dX11_arrive_167 ?_
                    refine c_ci (As := [.ref (Z.ad 34 0)]) (rest := []) x hml L193 5 (Z.n + sx152) al197 rfl (d_ktakeNext l (X + (10 * a37_5_155.toInt + 1)) g193 (Z.n + sx152) 0 ⟨by omega, by omega⟩ (show (Z.n + sx152) < 2 * Z.n from (by omega)) al198 hW) (wk_V kd_X5_takeNext kl_X11_159 ki_X5_takeNext ks_X5_X5_takeNext kn_X5) rfl ⟨rfl, rfl⟩ hd_ktakeNext ⟨Nat.le_of_ble_eq_true rfl, Nat.le_of_ble_eq_true rfl⟩ rfl hl.1 rfl (lv_room (Nat.le_of_ble_eq_true rfl)) dX11_arrive_170 (fun v200 g199 H199 k199 hp199 L199 => ?_) hcs
                    obtain ⟨hW, hi199, hp199⟩ := hp199
                    replace hW := wfP_i hW ⟨hi199, hp199⟩
                    have rv200 : rg (0) (60) v200 := hp199.2.1
                    have uv200 : (0 : Int) ≤ v200.toInt ∧ v200.toInt ≤ 60 := rv200
                    have L201 := cL.mono L199 (show _ ≤ (X + ((10 * a37_5_155.toInt + 1) + 1)) by omega)
                    refine lv_istore (lv' := [(7, .int v200), (0, .ref (Z.ad 11 i0)), (1, .int p1), (2, .ref (Z.ad 3 q2)), (3, .ref (Z.ad 10 sx152)), (4, .int v172), (5, .int a37_5_155)]) hx hb dX11_arrive_173 hl (by decide) rfl (fun ls hl => ?_)
                    refine lv_iconst (v := 0) hx hb dX11_arrive_175 (by decide) ?_
                    refine lv_istore (lv' := [(8, .int (0 : Int32)), (7, .int v200), (0, .ref (Z.ad 11 i0)), (1, .int p1), (2, .ref (Z.ad 3 q2)), (3, .ref (Z.ad 10 sx152)), (4, .int v172), (5, .int a37_5_155)]) hx hb dX11_arrive_176 hl (by decide) rfl (fun ls hl => ?_)
                    obtain ⟨P204, hP204, hW⟩ := wfP_ex hW
                    have j178_204 : ∀ (n : Nat) (a178_7_202 a178_8_203 : Int32) (Z : cZ) (g204 : mSt) (H204 : Heap) (k204 : List Loc) (ls : Array Slot) (c204 l204 : Nat), mFr [32, 33, 34, 35, 36, 37, 38, 39, 40, 41, 42, 43, 44, 45, 46, 47, 48, 49, 135, 170, 171, 198, 288, 289, 290, 291, 292, 293, 294, 295, 296, 323, 384, 385, 386, 832, 864, 1088, 1280, 1344, 1536, 1728, 1729] g199 g204 → mFi (im_karrive i0 p1 q2) g199 g204 → cXA p c cX11_arrive s args (wk (Cond.code yX11_arrive cX11_arrive 9 none)) m G Z A RX11 H0 → cL G Z A H0 (X + (10 * a37_5_155.toInt + 2 + a178_8_203.toInt)) g204 H204 k204 → cZl Z0 Z c204 l204 → (c204 ≤ a ∧ l204 ≤ b) → cJ Z g204 → rg (0) (60) a178_7_202 → rg (0) (8) a178_8_203 → wfP (P204 a178_7_202 a178_8_203 Z g204) → lv_has ls 9 [(0, .ref (Z.ad 11 i0)), (1, .int p1), (2, .ref (Z.ad 3 q2)), (3, .ref (Z.ad 10 sx152)), (4, .int v172), (5, .int a37_5_155), (7, .int a178_7_202), (8, .int a178_8_203)] → ((8 : Int) - a178_8_203.toInt).toNat = n → W p l e (rm_karrive a b) s m args below meth c H204 k204 c204 l204 Q (F0 m 178 ls []) := by
                      intro n
                      induction n using Nat.strongRecOn with
                      | _ n ih204 =>
                        intro a178_7_202 a178_8_203 Z g204 H204 k204 ls c204 l204 hF204 hI204 xa L204 hzl hcs hJ204 ra178_7_202 ra178_8_203 hW hl hn204
                        subst hn204
                        have x := xa.1
                        have hz := x.2.2.2.2.2.2.2.1
                        have hzn := hz.1
                        have hZn204 := hzl.1
                        replace hW := wfP_i (wfP_i (wfP_i (wfP_i (wfP_i (wfP_i (wfP_i (wfP_a (wfP_a (wfP_a (wfP_a hP204 a178_7_202) a178_8_203) Z) g204) hF204) hI204) hJ204) hzl.1) ra178_7_202) ra178_8_203) hW
                        have ua178_7_202 : (0 : Int) ≤ a178_7_202.toInt ∧ a178_7_202.toInt ≤ 60 := ra178_7_202
                        have ua178_8_203 : (0 : Int) ≤ a178_8_203.toInt ∧ a178_8_203.toInt ≤ 8 := ra178_8_203
                        have al205 := hzl.2.1 11 i0 hal0
                        have al206 := hzl.2.1 3 q2 hq2
                        have al207 : Z.al 10 sx152 := hz.2 10 sx152 (show sx152 < Z.n from (by omega))
                        refine lv_iload hx hb dX11_arrive_178 (lv_at hl 7 rfl) ?_
                        refine lv_bipush (v := 8) hx hb dX11_arrive_180 (by decide) ?_
                        refine lv_icmp_ge (tgt := 249) hx hb dX11_arrive_182 (by decide) (fun c182_208 => ?_) (fun c182_208 => ?_)
                        · skip
                          replace hW := wfP_i (wfP_l hW) (i_le c182_208 (rg_i kc_8) rfl)
                          have ic182_208 := Int32.le_iff_toInt_le.mp c182_208
                          have q209 : rg (8) (8) a178_8_203 := (rg_le c182_208 kc_8 ra178_8_203).2
                          have uq209 : (8 : Int) ≤ a178_8_203.toInt ∧ a178_8_203.toInt ≤ 8 := q209
                          obtain ⟨v210, ev210, fv210⟩ := inc_ex a37_5_155 (1) (1 : Int32) (by decide)
                          have rv210 : rg (1) (212) v210 := (rg_add ev210 q162 kc_1 rfl).1
                          have tv210 := (rg_add ev210 q162 kc_1 rfl).2
                          have yv210 : (1 : Int32).toInt = 1 := by decide
                          replace hW := (wfP_i (wfP_i (wfP_i (wfP_a hW v210) ev210) rv210) (w_iadd tv210 rfl (rg_i kc_1)))
                          refine lv_iinc (v := v210) (lv' := [(5, .int v210), (0, .ref (Z.ad 11 i0)), (1, .int p1), (2, .ref (Z.ad 3 q2)), (3, .ref (Z.ad 10 sx152)), (4, .int v172), (7, .int a178_7_202), (8, .int a178_8_203)]) hx hb dX11_arrive_249 hl (k := 5) rfl fv210 (by decide) rfl (fun ls hl => ?_)
                          refine lv_goto (tgt := 37) hx hb dX11_arrive_252 (by decide) ?_
                          exact ih156 _ (ms_up tv210 kc_1 q162 rfl rfl) v172 v210 Z g204 _ _ ls _ _ (mFr.tr (mFr.tr (mFr.tr (mFr.tr (mFr.tr (mFr.tr hF156 hp170.1 rfl) hp180.1 rfl) hp191.1 rfl) hF193 rfl) hp199.1 rfl) hF204 rfl) (mFi.tr (mFi.sub (mFi.tr (mFi.sub (mFi.sub (mFi.sub hI156 hi170 (mSub_eq 46 rfl (mSub_eq 47 rfl (mSub_eq 48 rfl (mSub_eq 49 rfl (mSub_eq 50 rfl (mSub_eq 51 rfl (mSub_eq 52 rfl (mSub_eq 53 rfl (mSub_eq 54 rfl (mSub_eq 55 rfl (mSub_eq 56 rfl (mSub_eq 76 rfl mSub_nil))))))))))))) hi180 (mSub_any 0 rfl (mSub_any 1 rfl (mSub_any 2 rfl (mSub_any 17 rfl (mSub_any 21 rfl (mSub_any 22 rfl (mSub_eq 23 rfl (mSub_any 26 rfl (mSub_any 72 rfl (mSub_any 73 rfl (mSub_any 74 rfl (mSub_any 80 rfl (mSub_any 81 rfl (mSub_any 82 rfl (mSub_any 83 rfl mSub_nil)))))))))))))))) hi191 (mSub_any 21 rfl (mSub_any 22 rfl (mSub_any 24 rfl (mSub_any 27 rfl (mSub_any 28 rfl (mSub_any 29 rfl (mSub_any 30 rfl (mSub_any 31 rfl (mSub_any 32 rfl (mSub_any 33 rfl (mSub_any 34 rfl (mSub_any 35 rfl (mSub_any 37 rfl (mSub_any 38 rfl (mSub_any 41 rfl (mSub_any 42 rfl (mSub_any 43 rfl (mSub_any 44 rfl (mSub_any 45 rfl (mSub_any 70 rfl (mSub_any 70 rfl (mSub_any 71 rfl (mSub_any 71 rfl (mSub_any 73 rfl (mSub_any 74 rfl (mSub_any 75 rfl (mSub_any 78 rfl (mSub_any 79 rfl (mSub_any 85 rfl (mSub_any 86 rfl (mSub_any 86 rfl (mSub_any 87 rfl (mSub_any 87 rfl mSub_nil)))))))))))))))))))))))))))))))))) hI193) hi199 (mSub_any 33 rfl (mSub_any 34 rfl (mSub_eq 84 rfl (mSub_any 86 rfl (mSub_any 87 rfl mSub_nil)))))) hI204) xa (cL.mono L204 (by omega)) hzl hcs hJ204 (rg_w rv172 rfl) (rg_w rv210 rfl) hW (lv_sub hl [1, 2, 3, 4, 5, 0] rfl) rfl
                        · skip
                          replace hW := wfP_i (wfP_r hW) (i_lt (rg_nle c182_208) rfl (rg_i kc_8))
                          have ic182_208 := Int32.lt_iff_toInt_lt.mp (rg_nle c182_208)
                          have q211 : rg (0) (7) a178_8_203 := (rg_lt (rg_nle c182_208) ra178_8_203 kc_8).1
                          have uq211 : (0 : Int) ≤ a178_8_203.toInt ∧ a178_8_203.toInt ≤ 7 := q211
                          refine lv_iload hx hb dX11_arrive_185 (lv_at hl 6 rfl) ?_
                          refine lv_if_le (tgt := 249) hx hb dX11_arrive_187 (by decide) (fun c187_212 => ?_) (fun c187_212 => ?_)
                          · skip
                            replace hW := wfP_i (wfP_l hW) (i_le c187_212 rfl (rg_i kc_0))
                            have ic187_212 := Int32.le_iff_toInt_le.mp c187_212
                            have q213 : rg (0) (0) a178_7_202 := (rg_le c187_212 ra178_7_202 kc_0).1
                            have uq213 : (0 : Int) ≤ a178_7_202.toInt ∧ a178_7_202.toInt ≤ 0 := q213
                            obtain ⟨v214, ev214, fv214⟩ := inc_ex a37_5_155 (1) (1 : Int32) (by decide)
                            have rv214 : rg (1) (212) v214 := (rg_add ev214 q162 kc_1 rfl).1
                            have tv214 := (rg_add ev214 q162 kc_1 rfl).2
                            have yv214 : (1 : Int32).toInt = 1 := by decide
                            replace hW := (wfP_i (wfP_i (wfP_i (wfP_a hW v214) ev214) rv214) (w_iadd tv214 rfl (rg_i kc_1)))
                            refine lv_iinc (v := v214) (lv' := [(5, .int v214), (0, .ref (Z.ad 11 i0)), (1, .int p1), (2, .ref (Z.ad 3 q2)), (3, .ref (Z.ad 10 sx152)), (4, .int v172), (7, .int a178_7_202), (8, .int a178_8_203)]) hx hb dX11_arrive_249 hl (k := 5) rfl fv214 (by decide) rfl (fun ls hl => ?_)
                            refine lv_goto (tgt := 37) hx hb dX11_arrive_252 (by decide) ?_
                            exact ih156 _ (ms_up tv214 kc_1 q162 rfl rfl) v172 v214 Z g204 _ _ ls _ _ (mFr.tr (mFr.tr (mFr.tr (mFr.tr (mFr.tr (mFr.tr hF156 hp170.1 rfl) hp180.1 rfl) hp191.1 rfl) hF193 rfl) hp199.1 rfl) hF204 rfl) (mFi.tr (mFi.sub (mFi.tr (mFi.sub (mFi.sub (mFi.sub hI156 hi170 (mSub_eq 46 rfl (mSub_eq 47 rfl (mSub_eq 48 rfl (mSub_eq 49 rfl (mSub_eq 50 rfl (mSub_eq 51 rfl (mSub_eq 52 rfl (mSub_eq 53 rfl (mSub_eq 54 rfl (mSub_eq 55 rfl (mSub_eq 56 rfl (mSub_eq 76 rfl mSub_nil))))))))))))) hi180 (mSub_any 0 rfl (mSub_any 1 rfl (mSub_any 2 rfl (mSub_any 17 rfl (mSub_any 21 rfl (mSub_any 22 rfl (mSub_eq 23 rfl (mSub_any 26 rfl (mSub_any 72 rfl (mSub_any 73 rfl (mSub_any 74 rfl (mSub_any 80 rfl (mSub_any 81 rfl (mSub_any 82 rfl (mSub_any 83 rfl mSub_nil)))))))))))))))) hi191 (mSub_any 21 rfl (mSub_any 22 rfl (mSub_any 24 rfl (mSub_any 27 rfl (mSub_any 28 rfl (mSub_any 29 rfl (mSub_any 30 rfl (mSub_any 31 rfl (mSub_any 32 rfl (mSub_any 33 rfl (mSub_any 34 rfl (mSub_any 35 rfl (mSub_any 37 rfl (mSub_any 38 rfl (mSub_any 41 rfl (mSub_any 42 rfl (mSub_any 43 rfl (mSub_any 44 rfl (mSub_any 45 rfl (mSub_any 70 rfl (mSub_any 70 rfl (mSub_any 71 rfl (mSub_any 71 rfl (mSub_any 73 rfl (mSub_any 74 rfl (mSub_any 75 rfl (mSub_any 78 rfl (mSub_any 79 rfl (mSub_any 85 rfl (mSub_any 86 rfl (mSub_any 86 rfl (mSub_any 87 rfl (mSub_any 87 rfl mSub_nil)))))))))))))))))))))))))))))))))) hI193) hi199 (mSub_any 33 rfl (mSub_any 34 rfl (mSub_eq 84 rfl (mSub_any 86 rfl (mSub_any 87 rfl mSub_nil)))))) hI204) xa (cL.mono L204 (by omega)) hzl hcs hJ204 (rg_w rv172 rfl) (rg_w rv214 rfl) hW (lv_sub hl [1, 2, 3, 4, 5, 0] rfl) rfl
                          · skip
                            replace hW := wfP_i (wfP_r hW) (i_lt (rg_nle c187_212) (rg_i kc_0) rfl)
                            have ic187_212 := Int32.lt_iff_toInt_lt.mp (rg_nle c187_212)
                            have q215 : rg (1) (60) a178_7_202 := (rg_lt (rg_nle c187_212) kc_0 ra178_7_202).2
                            have uq215 : (1 : Int) ≤ a178_7_202.toInt ∧ a178_7_202.toInt ≤ 60 := q215
                            refine lv_aload_n hx hb dX11_arrive_190 rfl (lv_at hl 0 rfl) ?_
                            have al216 : Z.al 9 0 := hz.2 9 0 (show 0 < 1 from (by omega))
                            refine c_getr (a := Z.ad 9 0) x L204 11 i0 5 al205 rfl rfl (wk_in kf_X11_12) dX11_arrive_191 ?_
                            refine lv_aload_n hx hb dX11_arrive_194 rfl (lv_at hl 0 rfl) ?_
                            have al217 : Z.al 34 0 := hz.2 34 0 (show 0 < 1 from (by omega))
                            refine c_getr (a := Z.ad 34 0) x L204 11 i0 6 al205 rfl rfl (wk_in kf_X11_16) dX11_arrive_195 ?_
                            refine lv_iload hx hb dX11_arrive_198 (lv_at hl 6 rfl) ?_
                            refine lv_iload_n hx hb dX11_arrive_200 rfl (lv_at hl 1 rfl) ?_
                            refine lv_iconst (v := 2) hx hb dX11_arrive_201 (by decide) ?_
                            refine lv_irem hx hb dX11_arrive_202 (by decide) ?_
                            refine lv_topi (fun v218 ev218 => ?_)
                            have rv218 : rg (0) (1) v218 := (rg_rem ev218 rp1 kc_2 rfl).1
                            replace hW := (wfP_i (wfP_i (wfP_i (wfP_a hW v218) ev218) rv218) ((rg_rem ev218 rp1 kc_2 rfl).2))
                            have tv218 := (rg_rem ev218 rp1 kc_2 rfl).2
                            have y219 : (2 : Int32).toInt = 2 := by decide
                            have uv218 : (0 : Int) ≤ v218.toInt ∧ v218.toInt ≤ 1 := rv218
                            refine lv_iconst (v := 1) hx hb dX11_arrive_203 (by decide) ?_
                            refine lv_icmp_ne (tgt := 211) hx hb dX11_arrive_204 (by decide) (fun c204_220 => ?_) (fun c204_220 => ?_)
                            · skip
                              replace hW := wfP_i (wfP_l hW) (i_ne c204_220 rfl (rg_i kc_1))
                              have ic204_220 : v218.toInt ≠ (1 : Int32).toInt := fun z => c204_220 (Int32.toInt_inj.mp z)
                              have y221 : (1 : Int32).toInt = 1 := by decide
                              have q222 : rg (0) (0) v218 := rg_neH c204_220 rv218 kc_1
                              have uq222 : (0 : Int) ≤ v218.toInt ∧ v218.toInt ≤ 0 := q222
                              refine lv_iconst (v := 0) hx hb dX11_arrive_211 (by decide) ?_
                              refine c_ci (As := [.ref (Z.ad 34 0), .int a178_7_202, .int (0 : Int32)]) (rest := []) x hml L204 9 0 al216 rfl (d_ksread l (X + (10 * a37_5_155.toInt + 2 + a178_8_203.toInt)) g204 0 0 a178_7_202 (0 : Int32) ⟨by omega, by omega⟩ al216 al217 (rg_w q215 rfl) (rg_w kc_0 rfl) hW) (wk_V kd_X9_read kl_X11_163 ki_X9_read ks_X9_X9_read kn_X9) rfl ⟨rfl, rfl⟩ hd_ksread ⟨Nat.le_of_ble_eq_true rfl, Nat.le_of_ble_eq_true rfl⟩ rfl hl.1 rfl (lv_room (Nat.le_of_ble_eq_true rfl)) dX11_arrive_212 (fun v224 g223 H223 k223 hp223 L223 => ?_) hcs
                              obtain ⟨hW, hi223, hp223⟩ := hp223
                              replace hW := wfP_i hW ⟨hi223, hp223⟩
                              have rv224 : rg (0) (1) v224 := hp223.2.1
                              have uv224 : (0 : Int) ≤ v224.toInt ∧ v224.toInt ≤ 1 := rv224
                              have hw225 := hp223.2.2
                              obtain ⟨P226, hP226, hW⟩ := wfP_ex hW
                              have j230_226 : ∀ (Z : cZ) (g226 : mSt) (H226 : Heap) (k226 : List Loc) (ls : Array Slot) (c226 l226 : Nat), mFr [32, 33, 34, 35, 36, 37, 38, 39, 40, 41, 42, 43, 44, 45, 46, 47, 48, 49, 135, 198, 323, 384, 385, 386, 832, 864, 1536, 1728, 1729] g223 g226 → mFi (im_karrive i0 p1 q2) g223 g226 → cXA p c cX11_arrive s args (wk (Cond.code yX11_arrive cX11_arrive 9 none)) m G Z A RX11 H0 → cL G Z A H0 (X + (10 * a37_5_155.toInt + 2 + a178_8_203.toInt)) g226 H226 k226 → cZl Z0 Z c226 l226 → (c226 ≤ a ∧ l226 ≤ b) → cJ Z g226 → wfP (P226 Z g226) → lv_has ls 9 [(0, .ref (Z.ad 11 i0)), (1, .int p1), (2, .ref (Z.ad 3 q2)), (3, .ref (Z.ad 10 sx152)), (4, .int v172), (5, .int a37_5_155), (8, .int a178_8_203)] → W p l e (rm_karrive a b) s m args below meth c H226 k226 c226 l226 Q (F0 m 230 ls []) := by
                                intro  Z g226 H226 k226 ls c226 l226 hF226 hI226 xa L226 hzl hcs hJ226  hW hl
                                have x := xa.1
                                have hz := x.2.2.2.2.2.2.2.1
                                have hzn := hz.1
                                have hZn226 := hzl.1
                                replace hW := wfP_i (wfP_i (wfP_i (wfP_i (wfP_i (wfP_a (wfP_a hP226 Z) g226) hF226) hI226) hJ226) hzl.1) hW
                                have al227 := hzl.2.1 11 i0 hal0
                                have al228 := hzl.2.1 3 q2 hq2
                                have al229 : Z.al 10 sx152 := hz.2 10 sx152 (show sx152 < Z.n from (by omega))
                                refine lv_aload_n hx hb dX11_arrive_230 rfl (lv_at hl 3 rfl) ?_
                                have al230 : Z.al 5 (Z.n + sx152) := hz.2 5 (Z.n + sx152) (show (Z.n + sx152) < 2 * Z.n from (by omega))
                                refine c_getr (a := Z.ad 5 (Z.n + sx152)) x L226 10 sx152 1 al229 rfl rfl (wk_in kf_X11_85) dX11_arrive_231 ?_
                                refine lv_aload_n hx hb dX11_arrive_234 rfl (lv_at hl 0 rfl) ?_
                                have al231 : Z.al 34 0 := hz.2 34 0 (show 0 < 1 from (by omega))
                                refine c_getr (a := Z.ad 34 0) x L226 11 i0 6 al227 rfl rfl (wk_in kf_X11_16) dX11_arrive_235 ?_
                                refine c_ci (As := [.ref (Z.ad 34 0)]) (rest := []) x hml L226 5 (Z.n + sx152) al230 rfl (d_ktakeNext l (X + (10 * a37_5_155.toInt + 2 + a178_8_203.toInt)) g226 (Z.n + sx152) 0 ⟨by omega, by omega⟩ (show (Z.n + sx152) < 2 * Z.n from (by omega)) al231 hW) (wk_V kd_X5_takeNext kl_X11_159 ki_X5_takeNext ks_X5_X5_takeNext kn_X5) rfl ⟨rfl, rfl⟩ hd_ktakeNext ⟨Nat.le_of_ble_eq_true rfl, Nat.le_of_ble_eq_true rfl⟩ rfl hl.1 rfl (lv_room (Nat.le_of_ble_eq_true rfl)) dX11_arrive_238 (fun v233 g232 H232 k232 hp232 L232 => ?_) hcs
                                obtain ⟨hW, hi232, hp232⟩ := hp232
                                replace hW := wfP_i hW ⟨hi232, hp232⟩
                                have rv233 : rg (0) (60) v233 := hp232.2.1
                                have uv233 : (0 : Int) ≤ v233.toInt ∧ v233.toInt ≤ 60 := rv233
                                have L234 := cL.mono L232 (show _ ≤ (X + ((10 * a37_5_155.toInt + 2 + a178_8_203.toInt) + 1)) by omega)
                                refine lv_istore (lv' := [(7, .int v233), (0, .ref (Z.ad 11 i0)), (1, .int p1), (2, .ref (Z.ad 3 q2)), (3, .ref (Z.ad 10 sx152)), (4, .int v172), (5, .int a37_5_155), (8, .int a178_8_203)]) hx hb dX11_arrive_241 hl (by decide) rfl (fun ls hl => ?_)
                                obtain ⟨v235, ev235, fv235⟩ := inc_ex a178_8_203 (1) (1 : Int32) (by decide)
                                have rv235 : rg (1) (8) v235 := (rg_add ev235 q211 kc_1 rfl).1
                                have tv235 := (rg_add ev235 q211 kc_1 rfl).2
                                have yv235 : (1 : Int32).toInt = 1 := by decide
                                replace hW := (wfP_i (wfP_i (wfP_i (wfP_a hW v235) ev235) rv235) (w_iadd tv235 rfl (rg_i kc_1)))
                                refine lv_iinc (v := v235) (lv' := [(8, .int v235), (7, .int v233), (0, .ref (Z.ad 11 i0)), (1, .int p1), (2, .ref (Z.ad 3 q2)), (3, .ref (Z.ad 10 sx152)), (4, .int v172), (5, .int a37_5_155)]) hx hb dX11_arrive_243 hl (k := 7) rfl fv235 (by decide) rfl (fun ls hl => ?_)
                                refine lv_goto (tgt := 178) hx hb dX11_arrive_246 (by decide) ?_
                                exact ih204 _ (ms_up tv235 kc_1 q211 rfl rfl) v233 v235 Z g232 _ _ ls _ _ (mFr.tr (mFr.tr (mFr.tr hF204 hp223.1 rfl) hF226 rfl) hp232.1 rfl) (mFi.sub (mFi.tr (mFi.sub hI204 hi223 (mSub_eq 57 rfl (mSub_eq 58 rfl (mSub_eq 59 rfl (mSub_eq 60 rfl (mSub_eq 61 rfl (mSub_eq 62 rfl (mSub_eq 63 rfl (mSub_eq 64 rfl (mSub_eq 65 rfl mSub_nil)))))))))) hI226) hi232 (mSub_any 33 rfl (mSub_any 34 rfl (mSub_eq 84 rfl (mSub_any 86 rfl (mSub_any 87 rfl mSub_nil)))))) xa (cL.mono L234 (by omega)) hzl hcs (cJ_fr hJ226 hp232.1 rfl) (rg_w rv233 rfl) (rg_w rv235 rfl) hW (lv_sub hl [2, 3, 4, 5, 6, 7, 1, 0] rfl) rfl
                              refine lv_if_eq (tgt := 230) hx hb dX11_arrive_215 (by decide) (fun c215_236 => ?_) (fun c215_236 => ?_)
                              · skip
                                replace hW := wfP_i (wfP_l hW) (i_eq c215_236 rfl (rg_i kc_0))
                                have ic215_236 := congrArg Int32.toInt c215_236
                                have y237 : (0 : Int32).toInt = 0 := by decide
                                have q238 : rg (0) (0) v224 := (rg_eq c215_236 rv224 kc_0).1
                                have uq238 : (0 : Int) ≤ v224.toInt ∧ v224.toInt ≤ 0 := q238
                                exact j230_226  Z g223 _ _ ls _ _ mFr.rf mFi.rf xa (cL.mono L223 (by omega)) hzl hcs (cJ_fr hJ204 hp223.1 rfl)  hW (lv_sub hl [0, 1, 2, 3, 4, 5, 7] rfl)
                              · skip
                                replace hW := wfP_i (wfP_r hW) (i_ne c215_236 rfl (rg_i kc_0))
                                have ic215_236 : v224.toInt ≠ (0 : Int32).toInt := fun z => c215_236 (Int32.toInt_inj.mp z)
                                have y239 : (0 : Int32).toInt = 0 := by decide
                                have q240 : rg (1) (1) v224 := rg_neL c215_236 rv224 kc_0
                                have uq240 : (1 : Int) ≤ v224.toInt ∧ v224.toInt ≤ 1 := q240
                                refine lv_aload_n hx hb dX11_arrive_218 rfl (lv_at hl 3 rfl) ?_
                                refine lv_aload_n hx hb dX11_arrive_219 rfl (lv_at hl 0 rfl) ?_
                                refine c_getr (a := Z.ad 9 0) x L223 11 i0 5 al205 rfl rfl (wk_in kf_X11_12) dX11_arrive_220 ?_
                                refine lv_aload_n hx hb dX11_arrive_223 rfl (lv_at hl 0 rfl) ?_
                                refine c_geti x L223 11 i0 10 362 al205 rfl rfl (wk_in kf_X11_82) dX11_arrive_224 (fun v241 ev241 wv241 => ?_)
                                have rv241 : rg (-2147483648) (2147483647) v241 := rg_any v241
                                replace hW := (wfP_i (wfP_i (wfP_a hW v241) ev241) rv241)
                                have uv241 : (-2147483648 : Int) ≤ v241.toInt ∧ v241.toInt ≤ 2147483647 := rv241
                                have sv241 : v241.toInt = (g 362 i0).toInt := congrArg Int32.toInt (ev241.trans (congrFun ((show mFr [0, 1, 2, 32, 33, 34, 35, 36, 37, 38, 39, 40, 41, 42, 43, 44, 45, 46, 47, 48, 49, 67, 108, 109, 111, 135, 136, 164, 165, 166, 167, 168, 169, 170, 171, 172, 173, 174, 175, 176, 177, 178, 179, 180, 197, 198, 225, 226, 227, 228, 229, 230, 231, 232, 233, 234, 235, 288, 289, 290, 291, 292, 293, 294, 295, 296, 323, 384, 385, 386, 421, 422, 512, 544, 576, 768, 800, 832, 864, 928, 960, 992, 1024, 1056, 1088, 1248, 1280, 1344, 1536, 1728, 1729] g g223 from (mFr.tr (mFr.tr (mFr.tr (mFr.tr (mFr.tr (mFr.tr (mFr.tr (mFr.tr mFr.rf hF156 rfl) hp170.1 rfl) hp180.1 rfl) hp191.1 rfl) hF193 rfl) hp199.1 rfl) hF204 rfl) hp223.1 rfl)).at 362 rfl) _))
                                obtain ⟨n242_0, n242_1, ho242, hW⟩ := wfP_e2 hW
                                have hz0242 := hzl.2.2.2.1
                                have hz1242 := hzl.2.2.2.2
                                refine k_callv xa L223 (k_runU (x := ⟨"CellSwitch$Side", "came", "(LCellSwitch$Signal;I)V"⟩) (As := [.ref (Z.ad 9 0), .int v241]) (rest := []) ⟨hx, hb, hml, x.2.2.2.2.1, x.2.2.1⟩ (d_kcame_10 l (X + (10 * a37_5_155.toInt + 2 + a178_8_203.toInt)) g223 sx152 0 v241 _ n242_0 n242_1 ⟨by omega, by omega⟩ (cJ_fr hJ204 hp223.1 rfl) (by omega) (show sx152 < Z.n from (by omega)) al216 (hw225 (by omega)) hW) (va_cwU 2 x.2.2.1 (wk_U (owner := "CellSwitch$Side") kd_X8_came kl_X11_167 km_CellSwitchSide_CellSwitchSide_came ks_X10_CellSwitchSide_X8_came ki_X8_came kn_X8) rfl rfl rfl rfl (by decide +kernel) ⟨Nat.le_of_ble_eq_true rfl, Nat.le_of_ble_eq_true rfl⟩) ⟨cPreA.blind, c_recv x L223 al207 rfl, fun U hU hW => k_pre xa L223 U hU hW⟩ rfl rfl hl.1 rfl (lv_room (Nat.le_of_ble_eq_true rfl)) dX11_arrive_227 ⟨show c204 + 4 ≤ a by omega, show l204 + (36 + n242_0 + n242_1) ≤ b by omega⟩) (fun  Z g242 H242 k242 kc242 kn242 hk242 hn242 hp242 hz242 xa L242 => ?_)
                                obtain ⟨hW, hi242, hp242⟩ := hp242
                                replace hW := wfP_i (wfP_a (wfP_i (wfP_i hW ⟨hi242, hp242⟩) (cZg_of hz242 hk242 hn242)) Z) rfl
                                have hww242 := hp242.2.2.1
                                have ea242_0 := hz242.2.2.1 11 i0 al205 (by omega)
                                have ea242_1 := hz242.2.2.1 3 q2 al206 (by omega)
                                have ea242_2 := hz242.2.2.1 10 sx152 al207 (by omega)
                                rw [← ea242_0] at hl
                                rw [← ea242_1] at hl
                                rw [← ea242_2] at hl
                                have al242_0 := hz242.2.1 11 i0 al205
                                have al242_1 := hz242.2.1 3 q2 al206
                                have al242_2 := hz242.2.1 10 sx152 al207
                                have hZn242 := hz242.1
                                have x := xa.1
                                have hz := x.2.2.2.2.2.2.2.1
                                have hzn := hz.1
                                have hzl := cZl.tr hzl hz242
                                have hcs : c204 + kc242 ≤ a ∧ l204 + kn242 ≤ b := by omega
                                exact j230_226  Z g242 _ _ ls _ _ (mFr.tr mFr.rf hp242.1 rfl) (mFi.sub mFi.rf hi242 (mSub_any 3 rfl (mSub_any 4 rfl (mSub_any 5 rfl (mSub_any 6 rfl (mSub_any 7 rfl (mSub_any 8 rfl (mSub_any 9 rfl (mSub_any 10 rfl (mSub_any 11 rfl (mSub_any 12 rfl (mSub_any 13 rfl (mSub_any 14 rfl (mSub_any 15 rfl (mSub_any 16 rfl (mSub_any 17 rfl (mSub_any 18 rfl (mSub_any 19 rfl (mSub_any 20 rfl (mSub_any 45 rfl (mSub_any 66 rfl (mSub_any 67 rfl (mSub_any 68 rfl (mSub_any 69 rfl (mSub_any 77 rfl (mSub_any 78 rfl (mSub_any 89 rfl (mSub_any 90 rfl mSub_nil)))))))))))))))))))))))))))) xa (cL.mono L242 (by omega)) hzl hcs hp242.2.1  hW (lv_sub hl [0, 1, 2, 3, 4, 5, 7] rfl)
                            · skip
                              replace hW := wfP_i (wfP_r hW) (i_eq c204_220 rfl (rg_i kc_1))
                              have ic204_220 := congrArg Int32.toInt c204_220
                              have y243 : (1 : Int32).toInt = 1 := by decide
                              have q244 : rg (1) (1) v218 := (rg_eq c204_220 rv218 kc_1).1
                              have uq244 : (1 : Int) ≤ v218.toInt ∧ v218.toInt ≤ 1 := q244
                              refine lv_iconst (v := 1) hx hb dX11_arrive_207 (by decide) ?_
                              refine lv_goto (tgt := 212) hx hb dX11_arrive_208 (by decide) ?_
                              refine c_ci (As := [.ref (Z.ad 34 0), .int a178_7_202, .int (1 : Int32)]) (rest := []) x hml L204 9 0 al216 rfl (d_ksread l (X + (10 * a37_5_155.toInt + 2 + a178_8_203.toInt)) g204 0 0 a178_7_202 (1 : Int32) ⟨by omega, by omega⟩ al216 al217 (rg_w q215 rfl) (rg_w kc_1 rfl) hW) (wk_V kd_X9_read kl_X11_163 ki_X9_read ks_X9_X9_read kn_X9) rfl ⟨rfl, rfl⟩ hd_ksread ⟨Nat.le_of_ble_eq_true rfl, Nat.le_of_ble_eq_true rfl⟩ rfl hl.1 rfl (lv_room (Nat.le_of_ble_eq_true rfl)) dX11_arrive_212 (fun v246 g245 H245 k245 hp245 L245 => ?_) hcs
                              obtain ⟨hW, hi245, hp245⟩ := hp245
                              replace hW := wfP_i hW ⟨hi245, hp245⟩
                              have rv246 : rg (0) (1) v246 := hp245.2.1
                              have uv246 : (0 : Int) ≤ v246.toInt ∧ v246.toInt ≤ 1 := rv246
                              have hw247 := hp245.2.2
                              obtain ⟨P248, hP248, hW⟩ := wfP_ex hW
                              have j230_248 : ∀ (Z : cZ) (g248 : mSt) (H248 : Heap) (k248 : List Loc) (ls : Array Slot) (c248 l248 : Nat), mFr [32, 33, 34, 35, 36, 37, 38, 39, 40, 41, 42, 43, 44, 45, 46, 47, 48, 49, 135, 198, 323, 384, 385, 386, 832, 864, 1536, 1728, 1729] g245 g248 → mFi (im_karrive i0 p1 q2) g245 g248 → cXA p c cX11_arrive s args (wk (Cond.code yX11_arrive cX11_arrive 9 none)) m G Z A RX11 H0 → cL G Z A H0 (X + (10 * a37_5_155.toInt + 2 + a178_8_203.toInt)) g248 H248 k248 → cZl Z0 Z c248 l248 → (c248 ≤ a ∧ l248 ≤ b) → cJ Z g248 → wfP (P248 Z g248) → lv_has ls 9 [(0, .ref (Z.ad 11 i0)), (1, .int p1), (2, .ref (Z.ad 3 q2)), (3, .ref (Z.ad 10 sx152)), (4, .int v172), (5, .int a37_5_155), (8, .int a178_8_203)] → W p l e (rm_karrive a b) s m args below meth c H248 k248 c248 l248 Q (F0 m 230 ls []) := by
                                intro  Z g248 H248 k248 ls c248 l248 hF248 hI248 xa L248 hzl hcs hJ248  hW hl
                                have x := xa.1
                                have hz := x.2.2.2.2.2.2.2.1
                                have hzn := hz.1
                                have hZn248 := hzl.1
                                replace hW := wfP_i (wfP_i (wfP_i (wfP_i (wfP_i (wfP_a (wfP_a hP248 Z) g248) hF248) hI248) hJ248) hzl.1) hW
                                have al249 := hzl.2.1 11 i0 hal0
                                have al250 := hzl.2.1 3 q2 hq2
                                have al251 : Z.al 10 sx152 := hz.2 10 sx152 (show sx152 < Z.n from (by omega))
                                refine lv_aload_n hx hb dX11_arrive_230 rfl (lv_at hl 3 rfl) ?_
                                have al252 : Z.al 5 (Z.n + sx152) := hz.2 5 (Z.n + sx152) (show (Z.n + sx152) < 2 * Z.n from (by omega))
                                refine c_getr (a := Z.ad 5 (Z.n + sx152)) x L248 10 sx152 1 al251 rfl rfl (wk_in kf_X11_85) dX11_arrive_231 ?_
                                refine lv_aload_n hx hb dX11_arrive_234 rfl (lv_at hl 0 rfl) ?_
                                have al253 : Z.al 34 0 := hz.2 34 0 (show 0 < 1 from (by omega))
                                refine c_getr (a := Z.ad 34 0) x L248 11 i0 6 al249 rfl rfl (wk_in kf_X11_16) dX11_arrive_235 ?_
                                refine c_ci (As := [.ref (Z.ad 34 0)]) (rest := []) x hml L248 5 (Z.n + sx152) al252 rfl (d_ktakeNext l (X + (10 * a37_5_155.toInt + 2 + a178_8_203.toInt)) g248 (Z.n + sx152) 0 ⟨by omega, by omega⟩ (show (Z.n + sx152) < 2 * Z.n from (by omega)) al253 hW) (wk_V kd_X5_takeNext kl_X11_159 ki_X5_takeNext ks_X5_X5_takeNext kn_X5) rfl ⟨rfl, rfl⟩ hd_ktakeNext ⟨Nat.le_of_ble_eq_true rfl, Nat.le_of_ble_eq_true rfl⟩ rfl hl.1 rfl (lv_room (Nat.le_of_ble_eq_true rfl)) dX11_arrive_238 (fun v255 g254 H254 k254 hp254 L254 => ?_) hcs
                                obtain ⟨hW, hi254, hp254⟩ := hp254
                                replace hW := wfP_i hW ⟨hi254, hp254⟩
                                have rv255 : rg (0) (60) v255 := hp254.2.1
                                have uv255 : (0 : Int) ≤ v255.toInt ∧ v255.toInt ≤ 60 := rv255
                                have L256 := cL.mono L254 (show _ ≤ (X + ((10 * a37_5_155.toInt + 2 + a178_8_203.toInt) + 1)) by omega)
                                refine lv_istore (lv' := [(7, .int v255), (0, .ref (Z.ad 11 i0)), (1, .int p1), (2, .ref (Z.ad 3 q2)), (3, .ref (Z.ad 10 sx152)), (4, .int v172), (5, .int a37_5_155), (8, .int a178_8_203)]) hx hb dX11_arrive_241 hl (by decide) rfl (fun ls hl => ?_)
                                obtain ⟨v257, ev257, fv257⟩ := inc_ex a178_8_203 (1) (1 : Int32) (by decide)
                                have rv257 : rg (1) (8) v257 := (rg_add ev257 q211 kc_1 rfl).1
                                have tv257 := (rg_add ev257 q211 kc_1 rfl).2
                                have yv257 : (1 : Int32).toInt = 1 := by decide
                                replace hW := (wfP_i (wfP_i (wfP_i (wfP_a hW v257) ev257) rv257) (w_iadd tv257 rfl (rg_i kc_1)))
                                refine lv_iinc (v := v257) (lv' := [(8, .int v257), (7, .int v255), (0, .ref (Z.ad 11 i0)), (1, .int p1), (2, .ref (Z.ad 3 q2)), (3, .ref (Z.ad 10 sx152)), (4, .int v172), (5, .int a37_5_155)]) hx hb dX11_arrive_243 hl (k := 7) rfl fv257 (by decide) rfl (fun ls hl => ?_)
                                refine lv_goto (tgt := 178) hx hb dX11_arrive_246 (by decide) ?_
                                exact ih204 _ (ms_up tv257 kc_1 q211 rfl rfl) v255 v257 Z g254 _ _ ls _ _ (mFr.tr (mFr.tr (mFr.tr hF204 hp245.1 rfl) hF248 rfl) hp254.1 rfl) (mFi.sub (mFi.tr (mFi.sub hI204 hi245 (mSub_eq 57 rfl (mSub_eq 58 rfl (mSub_eq 59 rfl (mSub_eq 60 rfl (mSub_eq 61 rfl (mSub_eq 62 rfl (mSub_eq 63 rfl (mSub_eq 64 rfl (mSub_eq 65 rfl mSub_nil)))))))))) hI248) hi254 (mSub_any 33 rfl (mSub_any 34 rfl (mSub_eq 84 rfl (mSub_any 86 rfl (mSub_any 87 rfl mSub_nil)))))) xa (cL.mono L256 (by omega)) hzl hcs (cJ_fr hJ248 hp254.1 rfl) (rg_w rv255 rfl) (rg_w rv257 rfl) hW (lv_sub hl [2, 3, 4, 5, 6, 7, 1, 0] rfl) rfl
                              refine lv_if_eq (tgt := 230) hx hb dX11_arrive_215 (by decide) (fun c215_258 => ?_) (fun c215_258 => ?_)
                              · skip
                                replace hW := wfP_i (wfP_l hW) (i_eq c215_258 rfl (rg_i kc_0))
                                have ic215_258 := congrArg Int32.toInt c215_258
                                have y259 : (0 : Int32).toInt = 0 := by decide
                                have q260 : rg (0) (0) v246 := (rg_eq c215_258 rv246 kc_0).1
                                have uq260 : (0 : Int) ≤ v246.toInt ∧ v246.toInt ≤ 0 := q260
                                exact j230_248  Z g245 _ _ ls _ _ mFr.rf mFi.rf xa (cL.mono L245 (by omega)) hzl hcs (cJ_fr hJ204 hp245.1 rfl)  hW (lv_sub hl [0, 1, 2, 3, 4, 5, 7] rfl)
                              · skip
                                replace hW := wfP_i (wfP_r hW) (i_ne c215_258 rfl (rg_i kc_0))
                                have ic215_258 : v246.toInt ≠ (0 : Int32).toInt := fun z => c215_258 (Int32.toInt_inj.mp z)
                                have y261 : (0 : Int32).toInt = 0 := by decide
                                have q262 : rg (1) (1) v246 := rg_neL c215_258 rv246 kc_0
                                have uq262 : (1 : Int) ≤ v246.toInt ∧ v246.toInt ≤ 1 := q262
                                refine lv_aload_n hx hb dX11_arrive_218 rfl (lv_at hl 3 rfl) ?_
                                refine lv_aload_n hx hb dX11_arrive_219 rfl (lv_at hl 0 rfl) ?_
                                refine c_getr (a := Z.ad 9 0) x L245 11 i0 5 al205 rfl rfl (wk_in kf_X11_12) dX11_arrive_220 ?_
                                refine lv_aload_n hx hb dX11_arrive_223 rfl (lv_at hl 0 rfl) ?_
                                refine c_geti x L245 11 i0 10 362 al205 rfl rfl (wk_in kf_X11_82) dX11_arrive_224 (fun v263 ev263 wv263 => ?_)
                                have rv263 : rg (-2147483648) (2147483647) v263 := rg_any v263
                                replace hW := (wfP_i (wfP_i (wfP_a hW v263) ev263) rv263)
                                have uv263 : (-2147483648 : Int) ≤ v263.toInt ∧ v263.toInt ≤ 2147483647 := rv263
                                have sv263 : v263.toInt = (g 362 i0).toInt := congrArg Int32.toInt (ev263.trans (congrFun ((show mFr [0, 1, 2, 32, 33, 34, 35, 36, 37, 38, 39, 40, 41, 42, 43, 44, 45, 46, 47, 48, 49, 67, 108, 109, 111, 135, 136, 164, 165, 166, 167, 168, 169, 170, 171, 172, 173, 174, 175, 176, 177, 178, 179, 180, 197, 198, 225, 226, 227, 228, 229, 230, 231, 232, 233, 234, 235, 288, 289, 290, 291, 292, 293, 294, 295, 296, 323, 384, 385, 386, 421, 422, 512, 544, 576, 768, 800, 832, 864, 928, 960, 992, 1024, 1056, 1088, 1248, 1280, 1344, 1536, 1728, 1729] g g245 from (mFr.tr (mFr.tr (mFr.tr (mFr.tr (mFr.tr (mFr.tr (mFr.tr (mFr.tr mFr.rf hF156 rfl) hp170.1 rfl) hp180.1 rfl) hp191.1 rfl) hF193 rfl) hp199.1 rfl) hF204 rfl) hp245.1 rfl)).at 362 rfl) _))
                                obtain ⟨n264_0, n264_1, ho264, hW⟩ := wfP_e2 hW
                                have hz0264 := hzl.2.2.2.1
                                have hz1264 := hzl.2.2.2.2
                                refine k_callv xa L245 (k_runU (x := ⟨"CellSwitch$Side", "came", "(LCellSwitch$Signal;I)V"⟩) (As := [.ref (Z.ad 9 0), .int v263]) (rest := []) ⟨hx, hb, hml, x.2.2.2.2.1, x.2.2.1⟩ (d_kcame_10 l (X + (10 * a37_5_155.toInt + 2 + a178_8_203.toInt)) g245 sx152 0 v263 _ n264_0 n264_1 ⟨by omega, by omega⟩ (cJ_fr hJ204 hp245.1 rfl) (by omega) (show sx152 < Z.n from (by omega)) al216 (hw247 (by omega)) hW) (va_cwU 2 x.2.2.1 (wk_U (owner := "CellSwitch$Side") kd_X8_came kl_X11_167 km_CellSwitchSide_CellSwitchSide_came ks_X10_CellSwitchSide_X8_came ki_X8_came kn_X8) rfl rfl rfl rfl (by decide +kernel) ⟨Nat.le_of_ble_eq_true rfl, Nat.le_of_ble_eq_true rfl⟩) ⟨cPreA.blind, c_recv x L245 al207 rfl, fun U hU hW => k_pre xa L245 U hU hW⟩ rfl rfl hl.1 rfl (lv_room (Nat.le_of_ble_eq_true rfl)) dX11_arrive_227 ⟨show c204 + 4 ≤ a by omega, show l204 + (36 + n264_0 + n264_1) ≤ b by omega⟩) (fun  Z g264 H264 k264 kc264 kn264 hk264 hn264 hp264 hz264 xa L264 => ?_)
                                obtain ⟨hW, hi264, hp264⟩ := hp264
                                replace hW := wfP_i (wfP_a (wfP_i (wfP_i hW ⟨hi264, hp264⟩) (cZg_of hz264 hk264 hn264)) Z) rfl
                                have hww264 := hp264.2.2.1
                                have ea264_0 := hz264.2.2.1 11 i0 al205 (by omega)
                                have ea264_1 := hz264.2.2.1 3 q2 al206 (by omega)
                                have ea264_2 := hz264.2.2.1 10 sx152 al207 (by omega)
                                rw [← ea264_0] at hl
                                rw [← ea264_1] at hl
                                rw [← ea264_2] at hl
                                have al264_0 := hz264.2.1 11 i0 al205
                                have al264_1 := hz264.2.1 3 q2 al206
                                have al264_2 := hz264.2.1 10 sx152 al207
                                have hZn264 := hz264.1
                                have x := xa.1
                                have hz := x.2.2.2.2.2.2.2.1
                                have hzn := hz.1
                                have hzl := cZl.tr hzl hz264
                                have hcs : c204 + kc264 ≤ a ∧ l204 + kn264 ≤ b := by omega
                                exact j230_248  Z g264 _ _ ls _ _ (mFr.tr mFr.rf hp264.1 rfl) (mFi.sub mFi.rf hi264 (mSub_any 3 rfl (mSub_any 4 rfl (mSub_any 5 rfl (mSub_any 6 rfl (mSub_any 7 rfl (mSub_any 8 rfl (mSub_any 9 rfl (mSub_any 10 rfl (mSub_any 11 rfl (mSub_any 12 rfl (mSub_any 13 rfl (mSub_any 14 rfl (mSub_any 15 rfl (mSub_any 16 rfl (mSub_any 17 rfl (mSub_any 18 rfl (mSub_any 19 rfl (mSub_any 20 rfl (mSub_any 45 rfl (mSub_any 66 rfl (mSub_any 67 rfl (mSub_any 68 rfl (mSub_any 69 rfl (mSub_any 77 rfl (mSub_any 78 rfl (mSub_any 89 rfl (mSub_any 90 rfl mSub_nil)))))))))))))))))))))))))))) xa (cL.mono L264 (by omega)) hzl hcs hp264.2.1  hW (lv_sub hl [0, 1, 2, 3, 4, 5, 7] rfl)
                    have y265 : (0 : Int32).toInt = 0 := by decide
                    exact j178_204 _ v200 (0 : Int32) Z g199 _ _ ls _ _ mFr.rf mFi.rf xa (cL.mono L201 (by omega)) hzl hcs (cJ_fr hJ193 hp199.1 rfl) (rg_w rv200 rfl) (rg_w kc_0 rfl) hW (lv_sub hl [2, 3, 4, 5, 6, 7, 1, 0] rfl) rfl
                  refine lv_icmp_ne (tgt := 142) hx hb dX11_arrive_128 (by decide) (fun c128_266 => ?_) (fun c128_266 => ?_)
                  · skip
                    replace hW := wfP_i (wfP_l hW) (i_ne c128_266 rfl (rg_i kc_1))
                    have ic128_266 : v192.toInt ≠ (1 : Int32).toInt := fun z => c128_266 (Int32.toInt_inj.mp z)
                    have y267 : (1 : Int32).toInt = 1 := by decide
                    refine lv_iload hx hb dX11_arrive_142 (lv_at hl 0 rfl) ?_
                    refine lv_iconst (v := 2) hx hb dX11_arrive_144 (by decide) ?_
                    refine lv_icmp_ne (tgt := 162) hx hb dX11_arrive_145 (by decide) (fun c145_268 => ?_) (fun c145_268 => ?_)
                    · skip
                      replace hW := wfP_i (wfP_l hW) (i_ne c145_268 rfl (rg_i kc_2))
                      have ic145_268 : v192.toInt ≠ (2 : Int32).toInt := fun z => c145_268 (Int32.toInt_inj.mp z)
                      have y269 : (2 : Int32).toInt = 2 := by decide
                      have q270 : rg (0) (1) v192 := rg_neH c145_268 rv192 kc_2
                      have uq270 : (0 : Int) ≤ v192.toInt ∧ v192.toInt ≤ 1 := q270
                      exact j162_193  Z g191 _ _ ls _ _ mFr.rf mFi.rf xa (cL.mono L191 (by omega)) hzl hcs (cJ_fr hp180.2.2.1 hp191.1 rfl)  hW (lv_sub hl [2, 3, 4, 5, 1, 6] rfl)
                    · skip
                      replace hW := wfP_i (wfP_r hW) (i_eq c145_268 rfl (rg_i kc_2))
                      have ic145_268 := congrArg Int32.toInt c145_268
                      have y271 : (2 : Int32).toInt = 2 := by decide
                      have q272 : rg (2) (2) v192 := (rg_eq c145_268 rv192 kc_2).1
                      have uq272 : (2 : Int) ≤ v192.toInt ∧ v192.toInt ≤ 2 := q272
                      refine lv_aload_n hx hb dX11_arrive_148 rfl (lv_at hl 5 rfl) ?_
                      refine c_getr (a := Z.ad 5 (Z.n + sx152)) x L191 10 sx152 1 al180_2 rfl rfl (wk_in kf_X11_85) dX11_arrive_149 ?_
                      refine lv_iconst (v := 3) hx hb dX11_arrive_152 (by decide) ?_
                      refine lv_bipush (v := 9) hx hb dX11_arrive_153 (by decide) ?_
                      refine lv_aload_n hx hb dX11_arrive_155 rfl (lv_at hl 2 rfl) ?_
                      refine c_geti x L191 11 i0 10 362 al180_0 rfl rfl (wk_in kf_X11_82) dX11_arrive_156 (fun v273 ev273 wv273 => ?_)
                      refine m_top (((mm_fr ev190 hp191.1 rfl)).trans ev273.symm) ?_
                      refine c_cv (As := [.int (3 : Int32), .int (9 : Int32), .int v190]) (rest := []) x hml L191 5 (Z.n + sx152) al186 rfl (d_kask l (X + ((10 * a37_5_155.toInt) + 1)) g191 (Z.n + sx152) (3 : Int32) (9 : Int32) v190 ⟨by omega, by omega⟩ (show (Z.n + sx152) < 2 * Z.n from (by omega)) (rg_w kc_3 rfl) hW) (wk_V kd_X5_ask kl_X11_155 ki_X5_ask ks_X5_X5_ask kn_X5) rfl ⟨rfl, rfl⟩ hd_kask ⟨Nat.le_of_ble_eq_true rfl, Nat.le_of_ble_eq_true rfl⟩ rfl hl.1 rfl (lv_room (Nat.le_of_ble_eq_true rfl)) dX11_arrive_159 (fun  g274 H274 k274 hp274 L274 => ?_) hcs
                      obtain ⟨hW, hi274, hp274⟩ := hp274
                      replace hW := wfP_i hW ⟨hi274, hp274⟩
                      exact j162_193  Z g274 _ _ ls _ _ (mFr.tr mFr.rf hp274.1 rfl) (mFi.sub mFi.rf hi274 (mSub_any 21 rfl (mSub_any 22 rfl (mSub_any 24 rfl (mSub_any 27 rfl (mSub_any 36 rfl (mSub_any 39 rfl (mSub_any 40 rfl (mSub_any 41 rfl (mSub_any 73 rfl (mSub_any 74 rfl (mSub_any 75 rfl mSub_nil)))))))))))) xa (cL.mono L274 (by omega)) hzl hcs (cJ_fr (cJ_fr hp180.2.2.1 hp191.1 rfl) hp274.1 rfl)  hW (lv_sub hl [2, 3, 4, 5, 1, 6] rfl)
                  · skip
                    replace hW := wfP_i (wfP_r hW) (i_eq c128_266 rfl (rg_i kc_1))
                    have ic128_266 := congrArg Int32.toInt c128_266
                    have y275 : (1 : Int32).toInt = 1 := by decide
                    have q276 : rg (1) (1) v192 := (rg_eq c128_266 rv192 kc_1).1
                    have uq276 : (1 : Int) ≤ v192.toInt ∧ v192.toInt ≤ 1 := q276
                    refine lv_aload_n hx hb dX11_arrive_131 rfl (lv_at hl 5 rfl) ?_
                    refine lv_aload_n hx hb dX11_arrive_132 rfl (lv_at hl 2 rfl) ?_
                    refine c_geti x L191 11 i0 10 362 al180_0 rfl rfl (wk_in kf_X11_82) dX11_arrive_133 (fun v277 ev277 wv277 => ?_)
                    refine m_top (((mm_fr ev190 hp191.1 rfl)).trans ev277.symm) ?_
                    refine c_cvU (n := 1) (owner := "CellSwitch$Side") (x0 := ⟨"CellSwitch$Side", "allOver", "(I)V"⟩) (As := [.int v190]) (rest := []) x hml L191 10 sx152 al180_2 rfl (d_kallOver_10 l (X + ((10 * a37_5_155.toInt) + 1)) g191 sx152 v190 ⟨by omega, by omega⟩ (cJ_fr hp180.2.2.1 hp191.1 rfl) (show sx152 < Z.n from (by omega)) hW) (wk_U kd_X8_allOver kl_X11_93 km_CellSwitchSide_CellSwitchSide_allOver ks_X10_CellSwitchSide_X8_allOver ki_X8_allOver kn_X8) rfl ⟨rfl, rfl⟩ rfl (by decide +kernel) ⟨Nat.le_of_ble_eq_true rfl, Nat.le_of_ble_eq_true rfl⟩ rfl hl.1 rfl (lv_room (Nat.le_of_ble_eq_true rfl)) dX11_arrive_136 (fun  g278 H278 k278 hp278 L278 => ?_) hcs
                    obtain ⟨hW, hi278, hp278⟩ := hp278
                    replace hW := wfP_i hW ⟨hi278, hp278⟩
                    refine lv_goto (tgt := 162) hx hb dX11_arrive_139 (by decide) ?_
                    exact j162_193  Z g278 _ _ ls _ _ (mFr.tr mFr.rf hp278.1 rfl) (mFi.sub mFi.rf hi278 (mSub_any 7 rfl (mSub_any 11 rfl (mSub_any 12 rfl (mSub_any 13 rfl (mSub_any 15 rfl (mSub_any 16 rfl (mSub_any 17 rfl (mSub_any 19 rfl (mSub_any 45 rfl (mSub_any 77 rfl (mSub_any 78 rfl mSub_nil)))))))))))) xa (cL.mono L278 (by omega)) hzl hcs hp278.2.1  hW (lv_sub hl [2, 3, 4, 5, 1, 6] rfl)
                · skip
                  replace hW := wfP_i (wfP_r hW) (i_eq c92_183 rfl (rg_i kc_0))
                  have ic92_183 := congrArg Int32.toInt c92_183
                  have y279 : (0 : Int32).toInt = 0 := by decide
                  have q280 : rg (0) (0) v181 := (rg_eq c92_183 rv181 kc_0).1
                  have uq280 : (0 : Int) ≤ v181.toInt ∧ v181.toInt ≤ 0 := q280
                  refine lv_goto (tgt := 249) hx hb dX11_arrive_95 (by decide) ?_
                  obtain ⟨v281, ev281, fv281⟩ := inc_ex a37_5_155 (1) (1 : Int32) (by decide)
                  have rv281 : rg (1) (212) v281 := (rg_add ev281 q162 kc_1 rfl).1
                  have tv281 := (rg_add ev281 q162 kc_1 rfl).2
                  have yv281 : (1 : Int32).toInt = 1 := by decide
                  replace hW := (wfP_i (wfP_i (wfP_i (wfP_a hW v281) ev281) rv281) (w_iadd tv281 rfl (rg_i kc_1)))
                  refine lv_iinc (v := v281) (lv' := [(5, .int v281), (4, .int v172), (0, .ref (Z.ad 11 i0)), (1, .int p1), (2, .ref (Z.ad 3 q2)), (3, .ref (Z.ad 10 sx152))]) hx hb dX11_arrive_249 hl (k := 5) rfl fv281 (by decide) rfl (fun ls hl => ?_)
                  refine lv_goto (tgt := 37) hx hb dX11_arrive_252 (by decide) ?_
                  exact ih156 _ (ms_up tv281 kc_1 q162 rfl rfl) v172 v281 Z g180 _ _ ls _ _ (mFr.tr (mFr.tr hF156 hp170.1 rfl) hp180.1 rfl) (mFi.sub (mFi.sub hI156 hi170 (mSub_eq 46 rfl (mSub_eq 47 rfl (mSub_eq 48 rfl (mSub_eq 49 rfl (mSub_eq 50 rfl (mSub_eq 51 rfl (mSub_eq 52 rfl (mSub_eq 53 rfl (mSub_eq 54 rfl (mSub_eq 55 rfl (mSub_eq 56 rfl (mSub_eq 76 rfl mSub_nil))))))))))))) hi180 (mSub_any 0 rfl (mSub_any 1 rfl (mSub_any 2 rfl (mSub_any 17 rfl (mSub_any 21 rfl (mSub_any 22 rfl (mSub_eq 23 rfl (mSub_any 26 rfl (mSub_any 72 rfl (mSub_any 73 rfl (mSub_any 74 rfl (mSub_any 80 rfl (mSub_any 81 rfl (mSub_any 82 rfl (mSub_any 83 rfl mSub_nil)))))))))))))))) xa (cL.mono L182 (by omega)) hzl hcs hp180.2.2.1 (rg_w rv172 rfl) (rg_w rv281 rfl) hW (lv_sub hl [2, 3, 4, 5, 1, 0] rfl) rfl
      have y282 : (0 : Int32).toInt = 0 := by decide
      have y283 : (0 : Int32).toInt = 0 := by decide
      exact j37_156 _ (0 : Int32) (0 : Int32) Z g _ _ ls _ _ mFr.rf mFi.rf xa (cL.mono L (by omega)) hzl hcs hJ (rg_w kc_0 rfl) (rg_w kc_0 rfl) hW (lv_sub hl [3, 4, 5, 2, 1, 0] rfl) rfl
theorem d_karrive (l : Launch) {G : cG} {Z : cZ} (X : Int) (g : mSt) (i0 : Nat) (p1 : Int32) (q2 : Nat) (sz a b TC TS : Nat) (hX : 0 ≤ X ∧ (X + 2120) ≤ 2000000000) (hJ : cJ Z g) (hTC : Z.w 0 + a = TC) (hTS : Z.w 1 + b = TS) (hal0 : Z.al 11 i0) (rp1 : rg (0) (7) p1) (hq2 : Z.al 3 q2) (hd : p1.toInt < 2 * (Z.n : Int) ∧ q2 < 2 * Z.n) {Φ : Int32 → cZ → mSt → Prop} (hW : wfP (wp_karrive TC TS Z i0 p1 q2 g Φ)) : Met l yX11_arrive (wk (Cond.code yX11_arrive cX11_arrive 9 none)) (rm_karrive a b) (va_Pc [.ref (Z.ad 11 i0), .int p1, .ref (Z.ad 3 q2)] (cPreA G Z X g sz)) (kE a b (cAf Z sz) (cQvA G Z (X + 2120) (fun Z1 g1 => wfP (Φ 0 Z1 g1) ∧ mFi (im_karrive i0 p1 q2) g g1 ∧ (mFr [0, 1, 2, 32, 33, 34, 35, 36, 37, 38, 39, 40, 41, 42, 43, 44, 45, 46, 47, 48, 49, 67, 108, 109, 111, 135, 136, 164, 165, 166, 167, 168, 169, 170, 171, 172, 173, 174, 175, 176, 177, 178, 179, 180, 197, 198, 225, 226, 227, 228, 229, 230, 231, 232, 233, 234, 235, 288, 289, 290, 291, 292, 293, 294, 295, 296, 323, 384, 385, 386, 421, 422, 512, 544, 576, 768, 800, 832, 864, 928, 960, 992, 1024, 1056, 1088, 1248, 1280, 1344, 1536, 1728, 1729] g g1 ∧ cJ Z1 g1 ∧ True)))) a b (cAf Z sz) := by
  refine Met.ofW (cc := cX11_arrive) (maxL := 9) (ret := none) (by decide) rfl ?_
  intro p e s m args below meth c s₁ B hml hv
  obtain ⟨hav, hv⟩ := hv
  have hsz0 := hv.2.1
  subst hsz0
  have hr := B.returns
  have hlocks := B.notSynchronized
  obtain ⟨xa, L⟩ := k_start B rfl (fun w h => wk_in h) hv
  have hent : entryFrame m args 9 = entryFrame m ([.ref (Z.ad 11 i0), .int p1, .ref (Z.ad 3 q2)] : List Value).toArray 9 := by rw [hav]
  rw [hent]
  have hl := lv_entry ([.ref (Z.ad 11 i0), .int p1, .ref (Z.ad 3 q2)]) (n := 9) (Nat.le_of_ble_eq_true rfl)
  rw [lg_entry_eq]
  generalize (lg_sl ([.ref (Z.ad 11 i0), .int p1, .ref (Z.ad 3 q2)]) ++ List.replicate (9 - (lg_sl ([.ref (Z.ad 11 i0), .int p1, .ref (Z.ad 3 q2)])).length) Slot.unset).toArray = ls at hl ⊢
  have hl : lv_has ls 9 [(0, .ref (Z.ad 11 i0)), (1, .int p1), (2, .ref (Z.ad 3 q2))] := hl
  exact v_karrive xa hml L hTC hTS hX i0 p1 q2 hJ hal0 rp1 hq2 hd hW hl (fun pc' ls' Z1 g1 H1 locs1 c1 l1 hdg xa L hz hcs hp => k_vret xa L hr hlocks (Int.le_refl _) hz hp hcs.1 hcs.2 hdg)

def im_ktick (i0 : Nat) (p1 : Int32) : List (Nat × Nat × Nat) := [(0, 0, 0), (1, 0, 0), (2, 0, 0), (32, 0, 0), (33, 0, 0), (34, 0, 0), (35, 0, 0), (36, 0, 0), (37, 0, 0), (38, 0, 0), (39, 0, 0), (40, 0, 0), (41, 0, 0), (42, 0, 0), (43, 0, 0), (44, 0, 0), (45, 0, 0), (46, 0, 0), (47, 0, 0), (48, 0, 0), (49, 0, 0), (66, 0, 0), (67, 0, 0), (101, 0, 0), (106, 0, 0), (107, 0, 0), (108, 0, 0), (109, 0, 0), (111, 0, 0), (135, 0, 0), (136, 0, 0), (164, 0, 0), (165, 0, 0), (166, 0, 0), (167, 0, 0), (168, 0, 0), (169, 0, 0), (170, 0, 0), (171, 0, 0), (172, 0, 0), (173, 0, 0), (174, 0, 0), (175, 0, 0), (176, 0, 0), (177, 0, 0), (178, 0, 0), (179, 0, 0), (180, 0, 0), (197, 0, 0), (198, 0, 0), (225, 0, 0), (226, 0, 0), (227, 0, 0), (228, 0, 0), (229, 0, 0), (230, 0, 0), (231, 0, 0), (232, 0, 0), (233, 0, 0), (234, 0, 0), (235, 0, 0), (288, 0, 1), (289, 0, 1), (290, 0, 1), (291, 0, 1), (292, 0, 1), (293, 0, 1), (294, 0, 1), (295, 0, 1), (296, 0, 1), (323, 0, 0), (362, i0, 1), (363, i0, 1), (384, 0, 0), (385, 0, 0), (386, 0, 0), (421, 0, 0), (422, 0, 0), (512, 0, 0), (544, 0, 0), (576, 0, 0), (608, 0, 0), (640, 0, 0), (672, 0, 0), (704, 0, 0), (736, 0, 0), (768, 0, 0), (800, 0, 0), (832, 0, 0), (864, 0, 0), (928, 0, 0), (960, 0, 0), (992, 0, 0), (1024, 0, 0), (1056, 0, 0), (1088, 0, 8192), (1248, 0, 0), (1280, 0, 0), (1312, 0, 0), (1344, 0, 0), (1536, 0, 0), (1728, 0, 0), (1729, 0, 0)]
def po_ktick (Z : cZ) (i0 : Nat) (p1 : Int32) (g : mSt) (r : Int32) (Z1 : cZ) (g1 : mSt) : Prop := mFi (im_ktick i0 p1) g g1 ∧ mFr [0, 1, 2, 32, 33, 34, 35, 36, 37, 38, 39, 40, 41, 42, 43, 44, 45, 46, 47, 48, 49, 66, 67, 101, 106, 107, 108, 109, 111, 135, 136, 164, 165, 166, 167, 168, 169, 170, 171, 172, 173, 174, 175, 176, 177, 178, 179, 180, 197, 198, 225, 226, 227, 228, 229, 230, 231, 232, 233, 234, 235, 288, 289, 290, 291, 292, 293, 294, 295, 296, 323, 362, 363, 384, 385, 386, 421, 422, 512, 544, 576, 608, 640, 672, 704, 736, 768, 800, 832, 864, 928, 960, 992, 1024, 1056, 1088, 1248, 1280, 1312, 1344, 1536, 1728, 1729] g g1 ∧ rg (-2147483648) (2147483647) r ∧ cJ Z1 g1 ∧ True
def wp_ktick (TC TS : Nat) (Z0 : cZ) (i0 : Nat) (p1 : Int32) (g : mSt) (Φ : Int32 → cZ → mSt → Prop) : Prop :=
  ∀ Z : cZ, Z = Z0 → ((p1.toInt < 1) → Φ (-1 : Int32) Z g) ∧ ((1 ≤ p1.toInt) → ((p1.toInt ≤ 50) → ∃ P7 : Int32 → cZ → mSt → Prop, (∀ (a15_2_6 : Int32) (Z : cZ) (g7 : mSt), mFr [0, 1, 2, 32, 33, 34, 35, 36, 37, 38, 39, 40, 41, 42, 43, 44, 45, 46, 47, 48, 49, 66, 67, 101, 106, 107, 108, 109, 111, 135, 136, 164, 165, 166, 167, 168, 169, 170, 171, 172, 173, 174, 175, 176, 177, 178, 179, 180, 197, 198, 225, 226, 227, 228, 229, 230, 231, 232, 233, 234, 235, 288, 289, 290, 291, 292, 293, 294, 295, 296, 323, 362, 363, 384, 385, 386, 421, 422, 512, 544, 576, 608, 640, 672, 704, 736, 768, 800, 832, 864, 928, 960, 992, 1024, 1056, 1088, 1248, 1280, 1312, 1344, 1536, 1728, 1729] g g7 → mFi (im_ktick i0 p1) g g7 → cJ Z g7 → Z.n = Z0.n → rg (0) (50) a15_2_6 → P7 a15_2_6 Z g7 → ((p1.toInt ≤ a15_2_6.toInt) → ∀ (v11 : Int32), v11 = g7 362 i0 → rg (-2147483648) (2147483647) v11 → Φ v11 Z g7) ∧ ((a15_2_6.toInt < p1.toInt) → ∀ (v13 : Int32), v13 = g7 362 i0 → rg (-2147483648) (2147483647) v13 → ∀ (v14 : Int32), v14 = v13 + (1 : Int32) → rg (-2147483648) (2147483647) v14 → ∀ (g15 : mSt), g15 = up2 g7 362 i0 v14 → ∃ P17 : Int32 → cZ → mSt → Prop, (∀ (a32_3_16 : Int32) (Z : cZ) (g17 : mSt), mFr [36, 40, 41, 42, 44, 45, 46, 48, 67, 108, 111, 164, 165, 166, 167, 168, 169, 170, 171, 172, 173, 176, 177, 178, 179, 197, 198, 421, 422, 544, 576, 768, 832, 864, 928, 1248, 1280, 1312, 1344] g15 g17 → mFi (im_ktick i0 p1) g15 g17 → cJ Z g17 → Z.n = Z0.n → rg (0) (8) a32_3_16 → P17 a32_3_16 Z g17 → ∀ (v20 : Int32), v20.toInt = (((2 * Z.n) : Nat) : Int) → rg (4) (8) v20 → ((v20.toInt ≤ a32_3_16.toInt) → ∃ P24 : Int32 → cZ → mSt → Prop, (∀ (a102_3_23 : Int32) (Z : cZ) (g24 : mSt), mFr [47, 48, 49, 67, 108, 544, 576] g17 g24 → mFi (im_ktick i0 p1) g17 g24 → cJ Z g24 → Z.n = Z0.n → rg (0) (4) a102_3_23 → P24 a102_3_23 Z g24 → ∀ (v26 : Int32), v26.toInt = (Z.n : Int) → rg (2) (4) v26 → ((v26.toInt ≤ a102_3_23.toInt) → ∃ P30 : Int32 → cZ → mSt → Prop, (∀ (a135_3_29 : Int32) (Z : cZ) (g30 : mSt), mFr [66, 67, 101, 106, 107, 363, 608, 640, 672, 704, 736] g24 g30 → mFi (im_ktick i0 p1) g24 g30 → cJ Z g30 → Z.n = Z0.n → rg (0) (8) a135_3_29 → P30 a135_3_29 Z g30 → ∀ (v33 : Int32), v33.toInt = (((2 * Z.n) : Nat) : Int) → rg (4) (8) v33 → ((v33.toInt ≤ a135_3_29.toInt) → ∃ P37 : Int32 → cZ → mSt → Prop, (∀ (a170_3_36 : Int32) (Z : cZ) (g37 : mSt), mFr [0, 1, 2, 32, 33, 34, 35, 36, 37, 38, 39, 40, 41, 42, 43, 44, 45, 46, 47, 48, 49, 67, 108, 109, 111, 135, 136, 164, 165, 166, 167, 168, 169, 170, 171, 172, 173, 174, 175, 176, 177, 178, 179, 180, 197, 198, 225, 226, 227, 228, 229, 230, 231, 232, 233, 234, 235, 288, 289, 290, 291, 292, 293, 294, 295, 296, 323, 384, 385, 386, 421, 422, 512, 544, 576, 768, 800, 832, 864, 928, 960, 992, 1024, 1056, 1088, 1248, 1280, 1344, 1536, 1728, 1729] g30 g37 → mFi (im_ktick i0 p1) g30 g37 → cJ Z g37 → Z.n = Z0.n → rg (0) (8) a170_3_36 → P37 a170_3_36 Z g37 → ∀ (v40 : Int32), v40.toInt = (((2 * Z.n) : Nat) : Int) → rg (4) (8) v40 → ((v40.toInt ≤ a170_3_36.toInt) → ∀ (v43 : Int32), v43 = a15_2_6 + (1 : Int32) → rg (1) (50) v43 → v43.toInt = a15_2_6.toInt + 1 → P7 v43 Z g37) ∧ ((a170_3_36.toInt < v40.toInt) → wp_karrive TC TS Z i0 a170_3_36 a170_3_36.toInt.toNat g37 (fun (_ : Int32) (Z_46 : cZ) (g46 : mSt) => po_karrive Z i0 a170_3_36 a170_3_36.toInt.toNat g37 0 Z_46 g46 → ∀ Z : cZ, Z = Z_46 → ∀ (v48 : Int32), v48 = a170_3_36 + (1 : Int32) → rg (1) (8) v48 → v48.toInt = a170_3_36.toInt + 1 → P37 v48 Z g46))) ∧ P37 (0 : Int32) Z g30) ∧ ((a135_3_29.toInt < v33.toInt) → ∀ (v51 : Int32), v51 = g30 363 i0 → rg (-2147483648) (2147483647) v51 → wp_kputCells Z a135_3_29.toInt.toNat g30 (fun (v54 : Int32) (g53 : mSt) => po_kputCells Z a135_3_29.toInt.toNat g30 v54 g53 → ∀ (v55 : Int32), v55 = v51 + v54 → rg (-2147483648) (2147483647) v55 → ∀ (g56 : mSt), g56 = up2 g53 363 i0 v55 → ∀ (v57 : Int32), v57 = a135_3_29 + (1 : Int32) → rg (1) (8) v57 → v57.toInt = a135_3_29.toInt + 1 → P30 v57 Z g56))) ∧ P30 (0 : Int32) Z g24) ∧ ((a102_3_23.toInt < v26.toInt) → ∀ (v63 : Int32), v63 = (2 : Int32) * a102_3_23 → rg (0) (6) v63 → v63.toInt = a102_3_23.toInt * 2 → wp_kesendCells Z a102_3_23.toInt.toNat v63.toInt.toNat g24 (fun (_ : Int32) (g66 : mSt) => po_kesendCells Z a102_3_23.toInt.toNat v63.toInt.toNat g24 0 g66 → ∀ (v67 : Int32), v67 = a102_3_23 + (1 : Int32) → rg (1) (4) v67 → v67.toInt = a102_3_23.toInt + 1 → P24 v67 Z g66))) ∧ P24 (0 : Int32) Z g17) ∧ ((a32_3_16.toInt < v20.toInt) → ((a32_3_16.toInt.toNat < Z.n) → ∀ (v74 : Int32), v74 = g17 362 i0 → rg (-2147483648) (2147483647) v74 → wp_ktimers Z a32_3_16.toInt.toNat v74 g17 (fun (v76 : Int32) (g75 : mSt) => po_ktimers Z a32_3_16.toInt.toNat v74 g17 v76 g75 → ((v76.toInt = 0) → wp_kcallTimers_4 Z a32_3_16.toInt.toNat v74 g75 (fun (_ : Int32) (g81 : mSt) => po_kcallTimers_4 Z a32_3_16.toInt.toNat v74 g75 0 g81 → wp_kturn Z a32_3_16.toInt.toNat v74 g81 (fun (_ : Int32) (g83 : mSt) => po_kturn Z a32_3_16.toInt.toNat v74 g81 0 g83 → ∀ (v84 : Int32), v84 = a32_3_16 + (1 : Int32) → rg (1) (8) v84 → v84.toInt = a32_3_16.toInt + 1 → P17 v84 Z g83))) ∧ ((v76.toInt ≠ 0) → wp_kallOver_4 Z a32_3_16.toInt.toNat v74 g75 (fun (_ : Int32) (g88 : mSt) => po_kallOver_4 Z a32_3_16.toInt.toNat v74 g75 0 g88 → wp_kcallTimers_4 Z a32_3_16.toInt.toNat v74 g88 (fun (_ : Int32) (g90 : mSt) => po_kcallTimers_4 Z a32_3_16.toInt.toNat v74 g88 0 g90 → wp_kturn Z a32_3_16.toInt.toNat v74 g90 (fun (_ : Int32) (g92 : mSt) => po_kturn Z a32_3_16.toInt.toNat v74 g90 0 g92 → ∀ (v93 : Int32), v93 = a32_3_16 + (1 : Int32) → rg (1) (8) v93 → v93.toInt = a32_3_16.toInt + 1 → P17 v93 Z g92)))))) ∧ ((Z.n ≤ a32_3_16.toInt.toNat) → ∀ (sx94 : Nat), sx94 = (a32_3_16.toInt.toNat - Z.n) → ∀ (v97 : Int32), v97 = g17 362 i0 → rg (-2147483648) (2147483647) v97 → wp_ktimers Z (Z.n + sx94) v97 g17 (fun (v99 : Int32) (g98 : mSt) => po_ktimers Z (Z.n + sx94) v97 g17 v99 g98 → ((v99.toInt = 0) → wp_kcallTimers_10 Z sx94 v97 g98 (fun (_ : Int32) (g104 : mSt) => po_kcallTimers_10 Z sx94 v97 g98 0 g104 → wp_kturn Z (Z.n + sx94) v97 g104 (fun (_ : Int32) (g106 : mSt) => po_kturn Z (Z.n + sx94) v97 g104 0 g106 → ∀ (v107 : Int32), v107 = a32_3_16 + (1 : Int32) → rg (1) (8) v107 → v107.toInt = a32_3_16.toInt + 1 → P17 v107 Z g106))) ∧ ((v99.toInt ≠ 0) → wp_kallOver_10 Z sx94 v97 g98 (fun (_ : Int32) (g111 : mSt) => po_kallOver_10 Z sx94 v97 g98 0 g111 → wp_kcallTimers_10 Z sx94 v97 g111 (fun (_ : Int32) (g113 : mSt) => po_kcallTimers_10 Z sx94 v97 g111 0 g113 → wp_kturn Z (Z.n + sx94) v97 g113 (fun (_ : Int32) (g115 : mSt) => po_kturn Z (Z.n + sx94) v97 g113 0 g115 → ∀ (v116 : Int32), v116 = a32_3_16 + (1 : Int32) → rg (1) (8) v116 → v116.toInt = a32_3_16.toInt + 1 → P17 v116 Z g115)))))))) ∧ P17 (0 : Int32) Z g15)) ∧ P7 (0 : Int32) Z g) ∧ ((50 < p1.toInt) → Φ (-1 : Int32) Z g))
def rm_ktick (a b : Nat) : Room := { frames := 12, cells := a, slots := b, locals := 281 }
theorem hd_ktick : yX11_tick.cls = cRn 11 ∧ yX11_tick.cls ≠ "java/lang/invoke/MethodHandle" ∧ yX11_tick.cls ≠ "java/lang/invoke/VarHandle" ∧ (parseMethodDescriptor yX11_tick.desc).map (fun d => d.parameters.length) = some 1 := by decide +kernel
set_option maxHeartbeats 8000000 in
set_option maxRecDepth 100000 in
theorem v_ktick {p : Program} {l : Launch} {e : Env} {s : State} {m : MethodId} {args : Array Value} {below : List Frame} {meth : Method} {c : Code} {H : Heap} {locs : List Loc} {Q : State → Prop} {ls : Array Slot} {G : cG} {Z0 : cZ} {A : Nat → Prop} {g : mSt} {H0 : Heap} {X : Int} {a b TC TS : Nat} (xa : cXA p c cX11_tick s args (wk (Cond.code yX11_tick cX11_tick 5 (some .int))) m G Z0 A RX11 H0) (hml : c.maxLocals = 5) (L : cL G Z0 A H0 X g H locs) (hTC : Z0.w 0 + a = TC) (hTS : Z0.w 1 + b = TS) (hX : 0 ≤ X ∧ (X + 848000) ≤ 2000000000) (i0 : Nat) (p1 : Int32) (hJ : cJ Z0 g) (hal0 : Z0.al 11 i0) {Φ : Int32 → cZ → mSt → Prop} (hW : wfP (wp_ktick TC TS Z0 i0 p1 g Φ)) (hl : lv_has ls 5 [(0, .ref (Z0.ad 11 i0)), (1, .int p1)]) (hQ : ∀ (pc' : Nat) (ls' : Array Slot) (r : Int32) (Z1 : cZ) (g1 : mSt) (H1 : Heap) (locs1 : List Loc) (c1 l1 : Nat), decode cX11_tick pc' = .ok (.ireturn, 1) → cXA p c cX11_tick s args (wk (Cond.code yX11_tick cX11_tick 5 (some .int))) m G Z1 A RX11 H0 → cL G Z1 A H0 (X + 848000) g1 H1 locs1 → cZl Z0 Z1 c1 l1 → (c1 ≤ a ∧ l1 ≤ b) → (wfP (Φ r Z1 g1) ∧ mFi (im_ktick i0 p1) g g1 ∧ (mFr [0, 1, 2, 32, 33, 34, 35, 36, 37, 38, 39, 40, 41, 42, 43, 44, 45, 46, 47, 48, 49, 66, 67, 101, 106, 107, 108, 109, 111, 135, 136, 164, 165, 166, 167, 168, 169, 170, 171, 172, 173, 174, 175, 176, 177, 178, 179, 180, 197, 198, 225, 226, 227, 228, 229, 230, 231, 232, 233, 234, 235, 288, 289, 290, 291, 292, 293, 294, 295, 296, 323, 362, 363, 384, 385, 386, 421, 422, 512, 544, 576, 608, 640, 672, 704, 736, 768, 800, 832, 864, 928, 960, 992, 1024, 1056, 1088, 1248, 1280, 1312, 1344, 1536, 1728, 1729] g g1 ∧ rg (-2147483648) (2147483647) r ∧ cJ Z1 g1 ∧ True)) → W p l e (rm_ktick a b) s m args below meth c H1 locs1 c1 l1 Q (F0 m pc' ls' [.int r])) : W p l e (rm_ktick a b) s m args below meth c H locs 0 0 Q (F0 m 0 ls []) := by
  obtain ⟨Z, eZ⟩ : ∃ Z : cZ, Z = Z0 := ⟨_, rfl⟩
  replace hW := wfP_i (wfP_a hW Z) eZ
  have hzl : cZl Z0 Z 0 0 := by rw [eZ]; exact cZl.rf
  rw [← eZ] at xa L hJ hl
  have hcs : 0 ≤ a ∧ 0 ≤ b := ⟨Nat.zero_le _, Nat.zero_le _⟩
  have x := xa.1
  have hx := x.1
  have hb := x.2.1
  have hz := x.2.2.2.2.2.2.2.1
  have hzn := hz.1
  have hZn0 := hzl.1
  have ha_0 := hzl.2.1 11 i0 hal0
  have up1 : (-2147483648 : Int) ≤ p1.toInt ∧ p1.toInt ≤ 2147483647 := (rg_any p1)
  refine lv_iload_n hx hb dX11_tick_0 rfl (lv_at hl 1 rfl) ?_
  refine lv_iconst (v := 1) hx hb dX11_tick_1 (by decide) ?_
  refine lv_icmp_lt (tgt := 11) hx hb dX11_tick_2 (by decide) (fun c2_1 => ?_) (fun c2_1 => ?_)
  · skip
    replace hW := wfP_i (wfP_l hW) (i_lt c2_1 rfl (rg_i kc_1))
    have ic2_1 := Int32.lt_iff_toInt_lt.mp c2_1
    have q2 : rg (-2147483648) (0) p1 := (rg_lt c2_1 (rg_any p1) kc_1).1
    have uq2 : (-2147483648 : Int) ≤ p1.toInt ∧ p1.toInt ≤ 0 := q2
    refine lv_iconst (v := (-1)) hx hb dX11_tick_11 (by decide) ?_
    exact hQ _ _ (-1 : Int32) Z _ _ _ _ _ dX11_tick_12 xa (cL.mono L (by omega)) hzl hcs ⟨hW, mFi.rf, mFr.rf, rg_w kc_m1 rfl, hJ, trivial⟩
  · skip
    replace hW := wfP_i (wfP_r hW) (i_le (rg_nlt c2_1) (rg_i kc_1) rfl)
    have ic2_1 := Int32.le_iff_toInt_le.mp (rg_nlt c2_1)
    have q3 : rg (1) (2147483647) p1 := (rg_le (rg_nlt c2_1) kc_1 (rg_any p1)).2
    have uq3 : (1 : Int) ≤ p1.toInt ∧ p1.toInt ≤ 2147483647 := q3
    refine lv_iload_n hx hb dX11_tick_5 rfl (lv_at hl 1 rfl) ?_
    refine lv_bipush (v := 50) hx hb dX11_tick_6 (by decide) ?_
    refine lv_icmp_le (tgt := 13) hx hb dX11_tick_8 (by decide) (fun c8_4 => ?_) (fun c8_4 => ?_)
    · skip
      replace hW := wfP_i (wfP_l hW) (i_le c8_4 rfl (rg_i kc_50))
      have ic8_4 := Int32.le_iff_toInt_le.mp c8_4
      have q5 : rg (1) (50) p1 := (rg_le c8_4 q3 kc_50).1
      have uq5 : (1 : Int) ≤ p1.toInt ∧ p1.toInt ≤ 50 := q5
      refine lv_iconst (v := 0) hx hb dX11_tick_13 (by decide) ?_
      refine lv_istore_n (lv' := [(2, .int (0 : Int32)), (0, .ref (Z.ad 11 i0)), (1, .int p1)]) hx hb dX11_tick_14 rfl hl (by decide) rfl (fun ls hl => ?_)
      obtain ⟨P7, hP7, hW⟩ := wfP_ex hW
      have j15_7 : ∀ (n : Nat) (a15_2_6 : Int32) (Z : cZ) (g7 : mSt) (H7 : Heap) (k7 : List Loc) (ls : Array Slot) (c7 l7 : Nat), mFr [0, 1, 2, 32, 33, 34, 35, 36, 37, 38, 39, 40, 41, 42, 43, 44, 45, 46, 47, 48, 49, 66, 67, 101, 106, 107, 108, 109, 111, 135, 136, 164, 165, 166, 167, 168, 169, 170, 171, 172, 173, 174, 175, 176, 177, 178, 179, 180, 197, 198, 225, 226, 227, 228, 229, 230, 231, 232, 233, 234, 235, 288, 289, 290, 291, 292, 293, 294, 295, 296, 323, 362, 363, 384, 385, 386, 421, 422, 512, 544, 576, 608, 640, 672, 704, 736, 768, 800, 832, 864, 928, 960, 992, 1024, 1056, 1088, 1248, 1280, 1312, 1344, 1536, 1728, 1729] g g7 → mFi (im_ktick i0 p1) g g7 → cXA p c cX11_tick s args (wk (Cond.code yX11_tick cX11_tick 5 (some .int))) m G Z A RX11 H0 → cL G Z A H0 (X + (16960 * a15_2_6.toInt)) g7 H7 k7 → cZl Z0 Z c7 l7 → (c7 ≤ a ∧ l7 ≤ b) → cJ Z g7 → rg (0) (50) a15_2_6 → wfP (P7 a15_2_6 Z g7) → lv_has ls 5 [(0, .ref (Z.ad 11 i0)), (1, .int p1), (2, .int a15_2_6)] → ((50 : Int) - a15_2_6.toInt).toNat = n → W p l e (rm_ktick a b) s m args below meth c H7 k7 c7 l7 Q (F0 m 15 ls []) := by
        intro n
        induction n using Nat.strongRecOn with
        | _ n ih7 =>
          intro a15_2_6 Z g7 H7 k7 ls c7 l7 hF7 hI7 xa L7 hzl hcs hJ7 ra15_2_6 hW hl hn7
          subst hn7
          have x := xa.1
          have hz := x.2.2.2.2.2.2.2.1
          have hzn := hz.1
          have hZn7 := hzl.1
          replace hW := wfP_i (wfP_i (wfP_i (wfP_i (wfP_i (wfP_i (wfP_a (wfP_a (wfP_a hP7 a15_2_6) Z) g7) hF7) hI7) hJ7) hzl.1) ra15_2_6) hW
          have ua15_2_6 : (0 : Int) ≤ a15_2_6.toInt ∧ a15_2_6.toInt ≤ 50 := ra15_2_6
          have al8 := hzl.2.1 11 i0 hal0
          refine lv_iload_n hx hb dX11_tick_15 rfl (lv_at hl 2 rfl) ?_
          refine lv_iload_n hx hb dX11_tick_16 rfl (lv_at hl 1 rfl) ?_
          refine lv_icmp_ge (tgt := 202) hx hb dX11_tick_17 (by decide) (fun c17_9 => ?_) (fun c17_9 => ?_)
          · skip
            replace hW := wfP_i (wfP_l hW) (i_le c17_9 rfl rfl)
            have ic17_9 := Int32.le_iff_toInt_le.mp c17_9
            have q10 : rg (1) (50) a15_2_6 := (rg_le c17_9 q5 ra15_2_6).2
            have uq10 : (1 : Int) ≤ a15_2_6.toInt ∧ a15_2_6.toInt ≤ 50 := q10
            refine lv_aload_n hx hb dX11_tick_202 rfl (lv_at hl 0 rfl) ?_
            refine c_geti x L7 11 i0 10 362 al8 rfl rfl (wk_in kf_X11_82) dX11_tick_203 (fun v11 ev11 wv11 => ?_)
            have rv11 : rg (-2147483648) (2147483647) v11 := rg_any v11
            replace hW := (wfP_i (wfP_i (wfP_a hW v11) ev11) rv11)
            have uv11 : (-2147483648 : Int) ≤ v11.toInt ∧ v11.toInt ≤ 2147483647 := rv11
            exact hQ _ _ v11 Z _ _ _ _ _ dX11_tick_206 xa (cL.mono L7 (by omega)) hzl hcs ⟨hW, (mFi.tr mFi.rf hI7), (mFr.tr mFr.rf hF7 rfl), rg_w rv11 rfl, hJ7, trivial⟩
          · skip
            replace hW := wfP_i (wfP_r hW) (i_lt (rg_nle c17_9) rfl rfl)
            have ic17_9 := Int32.lt_iff_toInt_lt.mp (rg_nle c17_9)
            have q12 : rg (0) (49) a15_2_6 := (rg_lt (rg_nle c17_9) ra15_2_6 q5).1
            have uq12 : (0 : Int) ≤ a15_2_6.toInt ∧ a15_2_6.toInt ≤ 49 := q12
            refine lv_aload_n hx hb dX11_tick_20 rfl (lv_at hl 0 rfl) ?_
            refine lv_dup hx hb dX11_tick_21 rfl ?_
            refine c_geti x L7 11 i0 10 362 al8 rfl rfl (wk_in kf_X11_82) dX11_tick_22 (fun v13 ev13 wv13 => ?_)
            have rv13 : rg (-2147483648) (2147483647) v13 := rg_any v13
            replace hW := (wfP_i (wfP_i (wfP_a hW v13) ev13) rv13)
            have uv13 : (-2147483648 : Int) ≤ v13.toInt ∧ v13.toInt ≤ 2147483647 := rv13
            refine lv_iconst (v := 1) hx hb dX11_tick_25 (by decide) ?_
            refine lv_iadd hx hb dX11_tick_26 ?_
            refine lv_topi (fun v14 ev14 => ?_)
            have rv14 : rg (-2147483648) (2147483647) v14 := rg_any v14
            replace hW := (wfP_i (wfP_i (wfP_a hW v14) ev14) rv14)
            have uv14 : (-2147483648 : Int) ≤ v14.toInt ∧ v14.toInt ≤ 2147483647 := rv14
            refine c_puti x L7 11 i0 10 362 al8 rfl rfl ⟨rfl, by decide +kernel⟩ (wk_in kf_X11_82) dX11_tick_27 (rg_any v14) (fun g15 H15 k15 eg15 L15 => ?_)
            replace hW := (wfP_i (wfP_a hW g15) eg15)
            refine lv_iconst (v := 0) hx hb dX11_tick_30 (by decide) ?_
            refine lv_istore_n (lv' := [(3, .int (0 : Int32)), (0, .ref (Z.ad 11 i0)), (1, .int p1), (2, .int a15_2_6)]) hx hb dX11_tick_31 rfl hl (by decide) rfl (fun ls hl => ?_)
            obtain ⟨P17, hP17, hW⟩ := wfP_ex hW
            have j32_17 : ∀ (n : Nat) (a32_3_16 : Int32) (Z : cZ) (g17 : mSt) (H17 : Heap) (k17 : List Loc) (ls : Array Slot) (c17 l17 : Nat), mFr [36, 40, 41, 42, 44, 45, 46, 48, 67, 108, 111, 164, 165, 166, 167, 168, 169, 170, 171, 172, 173, 176, 177, 178, 179, 197, 198, 421, 422, 544, 576, 768, 832, 864, 928, 1248, 1280, 1312, 1344] g15 g17 → mFi (im_ktick i0 p1) g15 g17 → cXA p c cX11_tick s args (wk (Cond.code yX11_tick cX11_tick 5 (some .int))) m G Z A RX11 H0 → cL G Z A H0 (X + (16960 * a15_2_6.toInt)) g17 H17 k17 → cZl Z0 Z c17 l17 → (c17 ≤ a ∧ l17 ≤ b) → cJ Z g17 → rg (0) (8) a32_3_16 → wfP (P17 a32_3_16 Z g17) → lv_has ls 5 [(0, .ref (Z.ad 11 i0)), (1, .int p1), (2, .int a15_2_6), (3, .int a32_3_16)] → ((8 : Int) - a32_3_16.toInt).toNat = n → W p l e (rm_ktick a b) s m args below meth c H17 k17 c17 l17 Q (F0 m 32 ls []) := by
              intro n
              induction n using Nat.strongRecOn with
              | _ n ih17 =>
                intro a32_3_16 Z g17 H17 k17 ls c17 l17 hF17 hI17 xa L17 hzl hcs hJ17 ra32_3_16 hW hl hn17
                subst hn17
                have x := xa.1
                have hz := x.2.2.2.2.2.2.2.1
                have hzn := hz.1
                have hZn17 := hzl.1
                replace hW := wfP_i (wfP_i (wfP_i (wfP_i (wfP_i (wfP_i (wfP_a (wfP_a (wfP_a hP17 a32_3_16) Z) g17) hF17) hI17) hJ17) hzl.1) ra32_3_16) hW
                have ua32_3_16 : (0 : Int) ≤ a32_3_16.toInt ∧ a32_3_16.toInt ≤ 8 := ra32_3_16
                have al18 := hzl.2.1 11 i0 hal0
                refine lv_iload_n hx hb dX11_tick_32 rfl (lv_at hl 3 rfl) ?_
                refine lv_aload_n hx hb dX11_tick_33 rfl (lv_at hl 0 rfl) ?_
                have al19 : Z.al 52 0 := hz.2 52 0 (show 0 < 1 from (by omega))
                refine c_getr (a := Z.ad 52 0) x L17 11 i0 4 al18 rfl rfl (wk_in kf_X11_71) dX11_tick_34 ?_
                refine c_lenr x L17 52 0 al19 rfl (show (2 * Z.n) ≤ 2147483647 from (by omega)) dX11_tick_37 (fun v20 ev20 => ?_)
                have tv20 : v20.toInt = (((2 * Z.n) : Nat) : Int) := ev20
                have rv20 : rg (4) (8) v20 := ⟨by omega, by omega⟩
                replace hW := (wfP_i (wfP_i (wfP_a hW v20) tv20) rv20)
                refine lv_icmp_ge (tgt := 100) hx hb dX11_tick_38 (by decide) (fun c38_21 => ?_) (fun c38_21 => ?_)
                · skip
                  replace hW := wfP_i (wfP_l hW) (i_le c38_21 rfl rfl)
                  have ic38_21 := Int32.le_iff_toInt_le.mp c38_21
                  have q22 : rg (4) (8) a32_3_16 := (rg_le c38_21 rv20 ra32_3_16).2
                  have uq22 : (4 : Int) ≤ a32_3_16.toInt ∧ a32_3_16.toInt ≤ 8 := q22
                  refine lv_iconst (v := 0) hx hb dX11_tick_100 (by decide) ?_
                  refine lv_istore_n (lv' := [(3, .int (0 : Int32)), (0, .ref (Z.ad 11 i0)), (1, .int p1), (2, .int a15_2_6)]) hx hb dX11_tick_101 rfl hl (by decide) rfl (fun ls hl => ?_)
                  obtain ⟨P24, hP24, hW⟩ := wfP_ex hW
                  have j102_24 : ∀ (n : Nat) (a102_3_23 : Int32) (Z : cZ) (g24 : mSt) (H24 : Heap) (k24 : List Loc) (ls : Array Slot) (c24 l24 : Nat), mFr [47, 48, 49, 67, 108, 544, 576] g17 g24 → mFi (im_ktick i0 p1) g17 g24 → cXA p c cX11_tick s args (wk (Cond.code yX11_tick cX11_tick 5 (some .int))) m G Z A RX11 H0 → cL G Z A H0 (X + (16960 * a15_2_6.toInt)) g24 H24 k24 → cZl Z0 Z c24 l24 → (c24 ≤ a ∧ l24 ≤ b) → cJ Z g24 → rg (0) (4) a102_3_23 → wfP (P24 a102_3_23 Z g24) → lv_has ls 5 [(0, .ref (Z.ad 11 i0)), (1, .int p1), (2, .int a15_2_6), (3, .int a102_3_23)] → ((4 : Int) - a102_3_23.toInt).toNat = n → W p l e (rm_ktick a b) s m args below meth c H24 k24 c24 l24 Q (F0 m 102 ls []) := by
                    intro n
                    induction n using Nat.strongRecOn with
                    | _ n ih24 =>
                      intro a102_3_23 Z g24 H24 k24 ls c24 l24 hF24 hI24 xa L24 hzl hcs hJ24 ra102_3_23 hW hl hn24
                      subst hn24
                      have x := xa.1
                      have hz := x.2.2.2.2.2.2.2.1
                      have hzn := hz.1
                      have hZn24 := hzl.1
                      replace hW := wfP_i (wfP_i (wfP_i (wfP_i (wfP_i (wfP_i (wfP_a (wfP_a (wfP_a hP24 a102_3_23) Z) g24) hF24) hI24) hJ24) hzl.1) ra102_3_23) hW
                      have ua102_3_23 : (0 : Int) ≤ a102_3_23.toInt ∧ a102_3_23.toInt ≤ 4 := ra102_3_23
                      have al25 := hzl.2.1 11 i0 hal0
                      refine lv_iload_n hx hb dX11_tick_102 rfl (lv_at hl 3 rfl) ?_
                      refine lv_aload_n hx hb dX11_tick_103 rfl (lv_at hl 0 rfl) ?_
                      refine c_getc x L24 11 i0 0 al25 rfl (wk_in kf_X11_55) dX11_tick_104 (fun v26 ev26 => ?_)
                      have tv26 : v26.toInt = (Z.n : Int) := cCv_11 ev26 hzn
                      have rv26 : rg (2) (4) v26 := ⟨by omega, by omega⟩
                      replace hW := (wfP_i (wfP_i (wfP_a hW v26) tv26) rv26)
                      refine lv_icmp_ge (tgt := 133) hx hb dX11_tick_107 (by decide) (fun c107_27 => ?_) (fun c107_27 => ?_)
                      · skip
                        replace hW := wfP_i (wfP_l hW) (i_le c107_27 rfl rfl)
                        have ic107_27 := Int32.le_iff_toInt_le.mp c107_27
                        have q28 : rg (2) (4) a102_3_23 := (rg_le c107_27 rv26 ra102_3_23).2
                        have uq28 : (2 : Int) ≤ a102_3_23.toInt ∧ a102_3_23.toInt ≤ 4 := q28
                        refine lv_iconst (v := 0) hx hb dX11_tick_133 (by decide) ?_
                        refine lv_istore_n (lv' := [(3, .int (0 : Int32)), (0, .ref (Z.ad 11 i0)), (1, .int p1), (2, .int a15_2_6)]) hx hb dX11_tick_134 rfl hl (by decide) rfl (fun ls hl => ?_)
                        obtain ⟨P30, hP30, hW⟩ := wfP_ex hW
                        have j135_30 : ∀ (n : Nat) (a135_3_29 : Int32) (Z : cZ) (g30 : mSt) (H30 : Heap) (k30 : List Loc) (ls : Array Slot) (c30 l30 : Nat), mFr [66, 67, 101, 106, 107, 363, 608, 640, 672, 704, 736] g24 g30 → mFi (im_ktick i0 p1) g24 g30 → cXA p c cX11_tick s args (wk (Cond.code yX11_tick cX11_tick 5 (some .int))) m G Z A RX11 H0 → cL G Z A H0 (X + (16960 * a15_2_6.toInt)) g30 H30 k30 → cZl Z0 Z c30 l30 → (c30 ≤ a ∧ l30 ≤ b) → cJ Z g30 → rg (0) (8) a135_3_29 → wfP (P30 a135_3_29 Z g30) → lv_has ls 5 [(0, .ref (Z.ad 11 i0)), (1, .int p1), (2, .int a15_2_6), (3, .int a135_3_29)] → ((8 : Int) - a135_3_29.toInt).toNat = n → W p l e (rm_ktick a b) s m args below meth c H30 k30 c30 l30 Q (F0 m 135 ls []) := by
                          intro n
                          induction n using Nat.strongRecOn with
                          | _ n ih30 =>
                            intro a135_3_29 Z g30 H30 k30 ls c30 l30 hF30 hI30 xa L30 hzl hcs hJ30 ra135_3_29 hW hl hn30
                            subst hn30
                            have x := xa.1
                            have hz := x.2.2.2.2.2.2.2.1
                            have hzn := hz.1
                            have hZn30 := hzl.1
                            replace hW := wfP_i (wfP_i (wfP_i (wfP_i (wfP_i (wfP_i (wfP_a (wfP_a (wfP_a hP30 a135_3_29) Z) g30) hF30) hI30) hJ30) hzl.1) ra135_3_29) hW
                            have ua135_3_29 : (0 : Int) ≤ a135_3_29.toInt ∧ a135_3_29.toInt ≤ 8 := ra135_3_29
                            have al31 := hzl.2.1 11 i0 hal0
                            refine lv_iload_n hx hb dX11_tick_135 rfl (lv_at hl 3 rfl) ?_
                            refine lv_aload_n hx hb dX11_tick_136 rfl (lv_at hl 0 rfl) ?_
                            have al32 : Z.al 50 0 := hz.2 50 0 (show 0 < 1 from (by omega))
                            refine c_getr (a := Z.ad 50 0) x L30 11 i0 1 al31 rfl rfl (wk_in kf_X11_59) dX11_tick_137 ?_
                            refine c_lenr x L30 50 0 al32 rfl (show (2 * Z.n) ≤ 2147483647 from (by omega)) dX11_tick_140 (fun v33 ev33 => ?_)
                            have tv33 : v33.toInt = (((2 * Z.n) : Nat) : Int) := ev33
                            have rv33 : rg (4) (8) v33 := ⟨by omega, by omega⟩
                            replace hW := (wfP_i (wfP_i (wfP_a hW v33) tv33) rv33)
                            refine lv_icmp_ge (tgt := 168) hx hb dX11_tick_141 (by decide) (fun c141_34 => ?_) (fun c141_34 => ?_)
                            · skip
                              replace hW := wfP_i (wfP_l hW) (i_le c141_34 rfl rfl)
                              have ic141_34 := Int32.le_iff_toInt_le.mp c141_34
                              have q35 : rg (4) (8) a135_3_29 := (rg_le c141_34 rv33 ra135_3_29).2
                              have uq35 : (4 : Int) ≤ a135_3_29.toInt ∧ a135_3_29.toInt ≤ 8 := q35
                              refine lv_iconst (v := 0) hx hb dX11_tick_168 (by decide) ?_
                              refine lv_istore_n (lv' := [(3, .int (0 : Int32)), (0, .ref (Z.ad 11 i0)), (1, .int p1), (2, .int a15_2_6)]) hx hb dX11_tick_169 rfl hl (by decide) rfl (fun ls hl => ?_)
                              obtain ⟨P37, hP37, hW⟩ := wfP_ex hW
                              have j170_37 : ∀ (n : Nat) (a170_3_36 : Int32) (Z : cZ) (g37 : mSt) (H37 : Heap) (k37 : List Loc) (ls : Array Slot) (c37 l37 : Nat), mFr [0, 1, 2, 32, 33, 34, 35, 36, 37, 38, 39, 40, 41, 42, 43, 44, 45, 46, 47, 48, 49, 67, 108, 109, 111, 135, 136, 164, 165, 166, 167, 168, 169, 170, 171, 172, 173, 174, 175, 176, 177, 178, 179, 180, 197, 198, 225, 226, 227, 228, 229, 230, 231, 232, 233, 234, 235, 288, 289, 290, 291, 292, 293, 294, 295, 296, 323, 384, 385, 386, 421, 422, 512, 544, 576, 768, 800, 832, 864, 928, 960, 992, 1024, 1056, 1088, 1248, 1280, 1344, 1536, 1728, 1729] g30 g37 → mFi (im_ktick i0 p1) g30 g37 → cXA p c cX11_tick s args (wk (Cond.code yX11_tick cX11_tick 5 (some .int))) m G Z A RX11 H0 → cL G Z A H0 (X + (16960 * a15_2_6.toInt + 2120 * a170_3_36.toInt)) g37 H37 k37 → cZl Z0 Z c37 l37 → (c37 ≤ a ∧ l37 ≤ b) → cJ Z g37 → rg (0) (8) a170_3_36 → wfP (P37 a170_3_36 Z g37) → lv_has ls 5 [(0, .ref (Z.ad 11 i0)), (1, .int p1), (2, .int a15_2_6), (3, .int a170_3_36)] → ((8 : Int) - a170_3_36.toInt).toNat = n → W p l e (rm_ktick a b) s m args below meth c H37 k37 c37 l37 Q (F0 m 170 ls []) := by
                                intro n
                                induction n using Nat.strongRecOn with
                                | _ n ih37 =>
                                  intro a170_3_36 Z g37 H37 k37 ls c37 l37 hF37 hI37 xa L37 hzl hcs hJ37 ra170_3_36 hW hl hn37
                                  subst hn37
                                  have x := xa.1
                                  have hz := x.2.2.2.2.2.2.2.1
                                  have hzn := hz.1
                                  have hZn37 := hzl.1
                                  replace hW := wfP_i (wfP_i (wfP_i (wfP_i (wfP_i (wfP_i (wfP_a (wfP_a (wfP_a hP37 a170_3_36) Z) g37) hF37) hI37) hJ37) hzl.1) ra170_3_36) hW
                                  have ua170_3_36 : (0 : Int) ≤ a170_3_36.toInt ∧ a170_3_36.toInt ≤ 8 := ra170_3_36
                                  have al38 := hzl.2.1 11 i0 hal0
                                  refine lv_iload_n hx hb dX11_tick_170 rfl (lv_at hl 3 rfl) ?_
                                  refine lv_aload_n hx hb dX11_tick_171 rfl (lv_at hl 0 rfl) ?_
                                  have al39 : Z.al 50 0 := hz.2 50 0 (show 0 < 1 from (by omega))
                                  refine c_getr (a := Z.ad 50 0) x L37 11 i0 1 al38 rfl rfl (wk_in kf_X11_59) dX11_tick_172 ?_
                                  refine c_lenr x L37 50 0 al39 rfl (show (2 * Z.n) ≤ 2147483647 from (by omega)) dX11_tick_175 (fun v40 ev40 => ?_)
                                  have tv40 : v40.toInt = (((2 * Z.n) : Nat) : Int) := ev40
                                  have rv40 : rg (4) (8) v40 := ⟨by omega, by omega⟩
                                  replace hW := (wfP_i (wfP_i (wfP_a hW v40) tv40) rv40)
                                  refine lv_icmp_ge (tgt := 196) hx hb dX11_tick_176 (by decide) (fun c176_41 => ?_) (fun c176_41 => ?_)
                                  · skip
                                    replace hW := wfP_i (wfP_l hW) (i_le c176_41 rfl rfl)
                                    have ic176_41 := Int32.le_iff_toInt_le.mp c176_41
                                    have q42 : rg (4) (8) a170_3_36 := (rg_le c176_41 rv40 ra170_3_36).2
                                    have uq42 : (4 : Int) ≤ a170_3_36.toInt ∧ a170_3_36.toInt ≤ 8 := q42
                                    obtain ⟨v43, ev43, fv43⟩ := inc_ex a15_2_6 (1) (1 : Int32) (by decide)
                                    have rv43 : rg (1) (50) v43 := (rg_add ev43 q12 kc_1 rfl).1
                                    have tv43 := (rg_add ev43 q12 kc_1 rfl).2
                                    have yv43 : (1 : Int32).toInt = 1 := by decide
                                    replace hW := (wfP_i (wfP_i (wfP_i (wfP_a hW v43) ev43) rv43) (w_iadd tv43 rfl (rg_i kc_1)))
                                    refine lv_iinc (v := v43) (lv' := [(2, .int v43), (0, .ref (Z.ad 11 i0)), (1, .int p1), (3, .int a170_3_36)]) hx hb dX11_tick_196 hl (k := 2) rfl fv43 (by decide) rfl (fun ls hl => ?_)
                                    refine lv_goto (tgt := 15) hx hb dX11_tick_199 (by decide) ?_
                                    exact ih7 _ (ms_up tv43 kc_1 q12 rfl rfl) v43 Z g37 _ _ ls _ _ (mFr.tr (mFr.tr (mFr.tr (mFr.tr (mFr.upE hF7 eg15 rfl) hF17 rfl) hF24 rfl) hF30 rfl) hF37 rfl) (mFi.tr (mFi.tr (mFi.tr (mFi.tr (mFi.up hI7 eg15 (mIn_at 71 rfl (Or.inr (Nat.div_one _)))) hI17) hI24) hI30) hI37) xa (cL.mono L37 (by omega)) hzl hcs hJ37 (rg_w rv43 rfl) hW (lv_sub hl [1, 2, 0] rfl) rfl
                                  · skip
                                    replace hW := wfP_i (wfP_r hW) (i_lt (rg_nle c176_41) rfl rfl)
                                    have ic176_41 := Int32.lt_iff_toInt_lt.mp (rg_nle c176_41)
                                    have q44 : rg (0) (7) a170_3_36 := (rg_lt (rg_nle c176_41) ra170_3_36 rv40).1
                                    have uq44 : (0 : Int) ≤ a170_3_36.toInt ∧ a170_3_36.toInt ≤ 7 := q44
                                    refine lv_aload_n hx hb dX11_tick_179 rfl (lv_at hl 0 rfl) ?_
                                    refine lv_iload_n hx hb dX11_tick_180 rfl (lv_at hl 3 rfl) ?_
                                    refine lv_aload_n hx hb dX11_tick_181 rfl (lv_at hl 0 rfl) ?_
                                    refine c_getr (a := Z.ad 50 0) x L37 11 i0 1 al38 rfl rfl (wk_in kf_X11_59) dX11_tick_182 ?_
                                    refine lv_iload_n hx hb dX11_tick_185 rfl (lv_at hl 3 rfl) ?_
                                    refine c_ldr (a := Z.ad 3 a170_3_36.toInt.toNat) x L37 50 0 al39 rfl (by omega) (show a170_3_36.toInt < (((2 * Z.n) : Nat) : Int) from (by omega)) rfl dX11_tick_186 ?_
                                    have al45 : Z.al 3 a170_3_36.toInt.toNat := hz.2 3 a170_3_36.toInt.toNat (show a170_3_36.toInt.toNat < 2 * Z.n from (by omega))
                                    have hz046 := hzl.2.2.2.1
                                    have hz146 := hzl.2.2.2.2
                                    refine k_callv xa L37 (k_runV (As := [.int a170_3_36, .ref (Z.ad 3 a170_3_36.toInt.toNat)]) (rest := []) ⟨hx, hb, hml, x.2.2.2.2.1, x.2.2.1⟩ (d_karrive l (X + (16960 * a15_2_6.toInt + 2120 * a170_3_36.toInt)) g37 i0 a170_3_36 a170_3_36.toInt.toNat _ (TC - Z.w 0) (TS - Z.w 1) TC TS ⟨by omega, by omega⟩ hJ37 (by omega) (by omega) al38 (rg_w q44 rfl) al45 (by omega) hW) (cwV 2 x.2.2.1 (wk_V kd_X11_arrive kl_X11_112 ki_X11_arrive ks_X11_X11_arrive kn_X11) rfl rfl rfl hd_karrive ⟨Nat.le_of_ble_eq_true rfl, Nat.le_of_ble_eq_true rfl⟩) ⟨cPreA.blind, c_recv x L37 al38 rfl, fun U hU hW => k_pre xa L37 U hU hW⟩ rfl rfl hl.1 rfl (lv_room (Nat.le_of_ble_eq_true rfl)) dX11_tick_187 ⟨show c37 + (TC - Z.w 0) ≤ a by omega, show l37 + (TS - Z.w 1) ≤ b by omega⟩) (fun  Z g46 H46 k46 kc46 kn46 hk46 hn46 hp46 hz46 xa L46 => ?_)
                                    obtain ⟨hW, hi46, hp46⟩ := hp46
                                    replace hW := wfP_i (wfP_a (wfP_i hW ⟨hi46, hp46⟩) Z) rfl
                                    have ea46_0 := hz46.2.2.1 11 i0 al38 (by omega)
                                    rw [← ea46_0] at hl
                                    have al46_0 := hz46.2.1 11 i0 al38
                                    have hZn46 := hz46.1
                                    have x := xa.1
                                    have hz := x.2.2.2.2.2.2.2.1
                                    have hzn := hz.1
                                    have hzl := cZl.tr hzl hz46
                                    have hcs : c37 + kc46 ≤ a ∧ l37 + kn46 ≤ b := by omega
                                    have L47 := cL.mono L46 (show _ ≤ (X + ((16960 * a15_2_6.toInt + 2120 * a170_3_36.toInt) + 2120)) by omega)
                                    obtain ⟨v48, ev48, fv48⟩ := inc_ex a170_3_36 (1) (1 : Int32) (by decide)
                                    have rv48 : rg (1) (8) v48 := (rg_add ev48 q44 kc_1 rfl).1
                                    have tv48 := (rg_add ev48 q44 kc_1 rfl).2
                                    have yv48 : (1 : Int32).toInt = 1 := by decide
                                    replace hW := (wfP_i (wfP_i (wfP_i (wfP_a hW v48) ev48) rv48) (w_iadd tv48 rfl (rg_i kc_1)))
                                    refine lv_iinc (v := v48) (lv' := [(3, .int v48), (0, .ref (Z.ad 11 i0)), (1, .int p1), (2, .int a15_2_6)]) hx hb dX11_tick_190 hl (k := 3) rfl fv48 (by decide) rfl (fun ls hl => ?_)
                                    refine lv_goto (tgt := 170) hx hb dX11_tick_193 (by decide) ?_
                                    exact ih37 _ (ms_up tv48 kc_1 q44 rfl rfl) v48 Z g46 _ _ ls _ _ (mFr.tr hF37 hp46.1 rfl) (mFi.sub hI37 hi46 (mSub_any 0 rfl (mSub_any 1 rfl (mSub_any 2 rfl (mSub_any 3 rfl (mSub_any 4 rfl (mSub_any 5 rfl (mSub_any 6 rfl (mSub_any 7 rfl (mSub_any 8 rfl (mSub_any 9 rfl (mSub_any 10 rfl (mSub_any 11 rfl (mSub_any 12 rfl (mSub_any 13 rfl (mSub_any 14 rfl (mSub_any 15 rfl (mSub_any 16 rfl (mSub_any 17 rfl (mSub_any 18 rfl (mSub_any 19 rfl (mSub_any 20 rfl (mSub_any 22 rfl (mSub_any 26 rfl (mSub_any 27 rfl (mSub_any 28 rfl (mSub_any 29 rfl (mSub_any 30 rfl (mSub_any 31 rfl (mSub_any 32 rfl (mSub_any 33 rfl (mSub_any 34 rfl (mSub_any 35 rfl (mSub_any 36 rfl (mSub_any 37 rfl (mSub_any 38 rfl (mSub_any 39 rfl (mSub_any 40 rfl (mSub_any 41 rfl (mSub_any 42 rfl (mSub_any 43 rfl (mSub_any 44 rfl (mSub_any 45 rfl (mSub_any 46 rfl (mSub_any 47 rfl (mSub_any 48 rfl (mSub_any 49 rfl (mSub_any 50 rfl (mSub_any 51 rfl (mSub_any 52 rfl (mSub_any 53 rfl (mSub_any 54 rfl (mSub_any 55 rfl (mSub_any 56 rfl (mSub_any 57 rfl (mSub_any 58 rfl (mSub_any 59 rfl (mSub_any 60 rfl (mSub_eq 61 rfl (mSub_eq 62 rfl (mSub_eq 63 rfl (mSub_eq 64 rfl (mSub_eq 65 rfl (mSub_eq 66 rfl (mSub_eq 67 rfl (mSub_eq 68 rfl (mSub_eq 69 rfl (mSub_any 70 rfl (mSub_any 73 rfl (mSub_any 74 rfl (mSub_any 75 rfl (mSub_any 76 rfl (mSub_any 77 rfl (mSub_any 78 rfl (mSub_any 79 rfl (mSub_any 80 rfl (mSub_any 86 rfl (mSub_any 87 rfl (mSub_any 88 rfl (mSub_any 89 rfl (mSub_any 90 rfl (mSub_any 91 rfl (mSub_any 92 rfl (mSub_any 93 rfl (mSub_any 94 rfl (mSub_eq 95 rfl (mSub_any 96 rfl (mSub_any 97 rfl (mSub_any 99 rfl (mSub_any 100 rfl (mSub_any 101 rfl (mSub_any 102 rfl mSub_nil)))))))))))))))))))))))))))))))))))))))))))))))))))))))))))))))))))))))))))))))))))))))))))) xa (cL.mono L47 (by omega)) hzl hcs hp46.2.1 (rg_w rv48 rfl) hW (lv_sub hl [1, 2, 3, 0] rfl) rfl
                              have y49 : (0 : Int32).toInt = 0 := by decide
                              exact j170_37 _ (0 : Int32) Z g30 _ _ ls _ _ mFr.rf mFi.rf xa (cL.mono L30 (by omega)) hzl hcs hJ30 (rg_w kc_0 rfl) hW (lv_sub hl [1, 2, 3, 0] rfl) rfl
                            · skip
                              replace hW := wfP_i (wfP_r hW) (i_lt (rg_nle c141_34) rfl rfl)
                              have ic141_34 := Int32.lt_iff_toInt_lt.mp (rg_nle c141_34)
                              have q50 : rg (0) (7) a135_3_29 := (rg_lt (rg_nle c141_34) ra135_3_29 rv33).1
                              have uq50 : (0 : Int) ≤ a135_3_29.toInt ∧ a135_3_29.toInt ≤ 7 := q50
                              refine lv_aload_n hx hb dX11_tick_144 rfl (lv_at hl 0 rfl) ?_
                              refine lv_dup hx hb dX11_tick_145 rfl ?_
                              refine c_geti x L30 11 i0 11 363 al31 rfl rfl (wk_in kf_X11_105) dX11_tick_146 (fun v51 ev51 wv51 => ?_)
                              have rv51 : rg (-2147483648) (2147483647) v51 := rg_any v51
                              replace hW := (wfP_i (wfP_i (wfP_a hW v51) ev51) rv51)
                              have uv51 : (-2147483648 : Int) ≤ v51.toInt ∧ v51.toInt ≤ 2147483647 := rv51
                              refine lv_aload_n hx hb dX11_tick_149 rfl (lv_at hl 0 rfl) ?_
                              refine c_getr (a := Z.ad 50 0) x L30 11 i0 1 al31 rfl rfl (wk_in kf_X11_59) dX11_tick_150 ?_
                              refine lv_iload_n hx hb dX11_tick_153 rfl (lv_at hl 3 rfl) ?_
                              refine c_ldr (a := Z.ad 3 a135_3_29.toInt.toNat) x L30 50 0 al32 rfl (by omega) (show a135_3_29.toInt < (((2 * Z.n) : Nat) : Int) from (by omega)) rfl dX11_tick_154 ?_
                              have al52 : Z.al 3 a135_3_29.toInt.toNat := hz.2 3 a135_3_29.toInt.toNat (show a135_3_29.toInt.toNat < 2 * Z.n from (by omega))
                              refine c_ci (As := []) (rest := [.int v51, .ref (Z.ad 11 i0)]) x hml L30 3 a135_3_29.toInt.toNat al52 rfl (d_kputCells l (X + (16960 * a15_2_6.toInt)) g30 a135_3_29.toInt.toNat ⟨by omega, by omega⟩ hJ30 (show a135_3_29.toInt.toNat < 2 * Z.n from (by omega)) hW) (wk_V kd_X3_putCells kl_X11_108 ki_X3_putCells ks_X3_X3_putCells kn_X3) rfl ⟨rfl, rfl⟩ hd_kputCells ⟨Nat.le_of_ble_eq_true rfl, Nat.le_of_ble_eq_true rfl⟩ rfl hl.1 rfl (lv_room (Nat.le_of_ble_eq_true rfl)) dX11_tick_155 (fun v54 g53 H53 k53 hp53 L53 => ?_) hcs
                              obtain ⟨hW, hi53, hp53⟩ := hp53
                              replace hW := wfP_i hW ⟨hi53, hp53⟩
                              have rv54 : rg (-2147483648) (2147483647) v54 := hp53.2.1
                              have uv54 : (-2147483648 : Int) ≤ v54.toInt ∧ v54.toInt ≤ 2147483647 := rv54
                              refine lv_iadd hx hb dX11_tick_158 ?_
                              refine lv_topi (fun v55 ev55 => ?_)
                              have rv55 : rg (-2147483648) (2147483647) v55 := rg_any v55
                              replace hW := (wfP_i (wfP_i (wfP_a hW v55) ev55) rv55)
                              have uv55 : (-2147483648 : Int) ≤ v55.toInt ∧ v55.toInt ≤ 2147483647 := rv55
                              refine c_puti x L53 11 i0 11 363 al31 rfl rfl ⟨rfl, by decide +kernel⟩ (wk_in kf_X11_105) dX11_tick_159 (rg_any v55) (fun g56 H56 k56 eg56 L56 => ?_)
                              replace hW := (wfP_i (wfP_a hW g56) eg56)
                              obtain ⟨v57, ev57, fv57⟩ := inc_ex a135_3_29 (1) (1 : Int32) (by decide)
                              have rv57 : rg (1) (8) v57 := (rg_add ev57 q50 kc_1 rfl).1
                              have tv57 := (rg_add ev57 q50 kc_1 rfl).2
                              have yv57 : (1 : Int32).toInt = 1 := by decide
                              replace hW := (wfP_i (wfP_i (wfP_i (wfP_a hW v57) ev57) rv57) (w_iadd tv57 rfl (rg_i kc_1)))
                              refine lv_iinc (v := v57) (lv' := [(3, .int v57), (0, .ref (Z.ad 11 i0)), (1, .int p1), (2, .int a15_2_6)]) hx hb dX11_tick_162 hl (k := 3) rfl fv57 (by decide) rfl (fun ls hl => ?_)
                              refine lv_goto (tgt := 135) hx hb dX11_tick_165 (by decide) ?_
                              exact ih30 _ (ms_up tv57 kc_1 q50 rfl rfl) v57 Z g56 _ _ ls _ _ (mFr.upE (mFr.tr hF30 hp53.1 rfl) eg56 rfl) (mFi.up (mFi.sub hI30 hi53 (mSub_any 21 rfl (mSub_any 21 rfl (mSub_any 22 rfl (mSub_any 22 rfl (mSub_any 23 rfl (mSub_any 24 rfl (mSub_any 25 rfl (mSub_any 81 rfl (mSub_any 82 rfl (mSub_any 83 rfl (mSub_any 84 rfl (mSub_any 85 rfl mSub_nil))))))))))))) eg56 (mIn_at 72 rfl (Or.inr (Nat.div_one _)))) xa (cL.mono L56 (by omega)) hzl hcs (cJ_up hp53.2.2.1 eg56 rfl) (rg_w rv57 rfl) hW (lv_sub hl [1, 2, 3, 0] rfl) rfl
                        have y58 : (0 : Int32).toInt = 0 := by decide
                        exact j135_30 _ (0 : Int32) Z g24 _ _ ls _ _ mFr.rf mFi.rf xa (cL.mono L24 (by omega)) hzl hcs hJ24 (rg_w kc_0 rfl) hW (lv_sub hl [1, 2, 3, 0] rfl) rfl
                      · skip
                        replace hW := wfP_i (wfP_r hW) (i_lt (rg_nle c107_27) rfl rfl)
                        have ic107_27 := Int32.lt_iff_toInt_lt.mp (rg_nle c107_27)
                        have q59 : rg (0) (3) a102_3_23 := (rg_lt (rg_nle c107_27) ra102_3_23 rv26).1
                        have uq59 : (0 : Int) ≤ a102_3_23.toInt ∧ a102_3_23.toInt ≤ 3 := q59
                        refine lv_aload_n hx hb dX11_tick_110 rfl (lv_at hl 0 rfl) ?_
                        have al60 : Z.al 51 0 := hz.2 51 0 (show 0 < 1 from (by omega))
                        refine c_getr (a := Z.ad 51 0) x L24 11 i0 2 al25 rfl rfl (wk_in kf_X11_63) dX11_tick_111 ?_
                        refine lv_iload_n hx hb dX11_tick_114 rfl (lv_at hl 3 rfl) ?_
                        refine c_ldr (a := Z.ad 4 a102_3_23.toInt.toNat) x L24 51 0 al60 rfl (by omega) (show a102_3_23.toInt < ((Z.n : Nat) : Int) from (by omega)) rfl dX11_tick_115 ?_
                        have al61 : Z.al 4 a102_3_23.toInt.toNat := hz.2 4 a102_3_23.toInt.toNat (show a102_3_23.toInt.toNat < Z.n from (by omega))
                        refine lv_aload_n hx hb dX11_tick_116 rfl (lv_at hl 0 rfl) ?_
                        have al62 : Z.al 50 0 := hz.2 50 0 (show 0 < 1 from (by omega))
                        refine c_getr (a := Z.ad 50 0) x L24 11 i0 1 al25 rfl rfl (wk_in kf_X11_59) dX11_tick_117 ?_
                        refine lv_iconst (v := 2) hx hb dX11_tick_120 (by decide) ?_
                        refine lv_iload_n hx hb dX11_tick_121 rfl (lv_at hl 3 rfl) ?_
                        refine lv_imul hx hb dX11_tick_122 ?_
                        refine lv_topi (fun v63 ev63 => ?_)
                        have rv63 : rg (0) (6) v63 := (rg_mulL ev63 kc_2 q59 rfl).1
                        replace hW := (wfP_i (wfP_i (wfP_i (wfP_a hW v63) ev63) rv63) ((rg_mulL ev63 kc_2 q59 rfl).2))
                        have tv63 := (rg_mulL ev63 kc_2 q59 rfl).2
                        have y64 : (2 : Int32).toInt = 2 := by decide
                        have uv63 : (0 : Int) ≤ v63.toInt ∧ v63.toInt ≤ 6 := rv63
                        refine c_ldr (a := Z.ad 3 v63.toInt.toNat) x L24 50 0 al62 rfl (by omega) (show v63.toInt < (((2 * Z.n) : Nat) : Int) from (by omega)) rfl dX11_tick_123 ?_
                        have al65 : Z.al 3 v63.toInt.toNat := hz.2 3 v63.toInt.toNat (show v63.toInt.toNat < 2 * Z.n from (by omega))
                        refine c_cv (As := [.ref (Z.ad 3 v63.toInt.toNat)]) (rest := []) x hml L24 4 a102_3_23.toInt.toNat al61 rfl (d_kesendCells l (X + (16960 * a15_2_6.toInt)) g24 a102_3_23.toInt.toNat v63.toInt.toNat ⟨by omega, by omega⟩ hJ24 (show a102_3_23.toInt.toNat < Z.n from (by omega)) al65 (by omega) hW) (wk_V kd_X4_sendCells kl_X11_102 ki_X4_sendCells ks_X4_X4_sendCells kn_X4) rfl ⟨rfl, rfl⟩ hd_kesendCells ⟨Nat.le_of_ble_eq_true rfl, Nat.le_of_ble_eq_true rfl⟩ rfl hl.1 rfl (lv_room (Nat.le_of_ble_eq_true rfl)) dX11_tick_124 (fun  g66 H66 k66 hp66 L66 => ?_) hcs
                        obtain ⟨hW, hi66, hp66⟩ := hp66
                        replace hW := wfP_i hW ⟨hi66, hp66⟩
                        obtain ⟨v67, ev67, fv67⟩ := inc_ex a102_3_23 (1) (1 : Int32) (by decide)
                        have rv67 : rg (1) (4) v67 := (rg_add ev67 q59 kc_1 rfl).1
                        have tv67 := (rg_add ev67 q59 kc_1 rfl).2
                        have yv67 : (1 : Int32).toInt = 1 := by decide
                        replace hW := (wfP_i (wfP_i (wfP_i (wfP_a hW v67) ev67) rv67) (w_iadd tv67 rfl (rg_i kc_1)))
                        refine lv_iinc (v := v67) (lv' := [(3, .int v67), (0, .ref (Z.ad 11 i0)), (1, .int p1), (2, .int a15_2_6)]) hx hb dX11_tick_127 hl (k := 3) rfl fv67 (by decide) rfl (fun ls hl => ?_)
                        refine lv_goto (tgt := 102) hx hb dX11_tick_130 (by decide) ?_
                        exact ih24 _ (ms_up tv67 kc_1 q59 rfl rfl) v67 Z g66 _ _ ls _ _ (mFr.tr hF24 hp66.1 rfl) (mFi.sub hI24 hi66 (mSub_any 18 rfl (mSub_any 19 rfl (mSub_any 20 rfl (mSub_any 22 rfl (mSub_any 26 rfl (mSub_any 79 rfl (mSub_any 80 rfl mSub_nil)))))))) xa (cL.mono L66 (by omega)) hzl hcs hp66.2.1 (rg_w rv67 rfl) hW (lv_sub hl [1, 2, 3, 0] rfl) rfl
                  have y68 : (0 : Int32).toInt = 0 := by decide
                  exact j102_24 _ (0 : Int32) Z g17 _ _ ls _ _ mFr.rf mFi.rf xa (cL.mono L17 (by omega)) hzl hcs hJ17 (rg_w kc_0 rfl) hW (lv_sub hl [1, 2, 3, 0] rfl) rfl
                · skip
                  replace hW := wfP_i (wfP_r hW) (i_lt (rg_nle c38_21) rfl rfl)
                  have ic38_21 := Int32.lt_iff_toInt_lt.mp (rg_nle c38_21)
                  have q69 : rg (0) (7) a32_3_16 := (rg_lt (rg_nle c38_21) ra32_3_16 rv20).1
                  have uq69 : (0 : Int) ≤ a32_3_16.toInt ∧ a32_3_16.toInt ≤ 7 := q69
                  refine lv_aload_n hx hb dX11_tick_41 rfl (lv_at hl 0 rfl) ?_
                  refine c_getr (a := Z.ad 52 0) x L17 11 i0 4 al18 rfl rfl (wk_in kf_X11_71) dX11_tick_42 ?_
                  refine lv_iload_n hx hb dX11_tick_45 rfl (lv_at hl 3 rfl) ?_
                  rcases Nat.lt_or_ge a32_3_16.toInt.toNat Z.n with hc70 | hc70
                  · skip
                    replace hW := wfP_i (wfP_l hW) hc70
                    have al71 : Z.al 4 a32_3_16.toInt.toNat := hz.2 4 a32_3_16.toInt.toNat (show a32_3_16.toInt.toNat < Z.n from (by omega))
                    refine c_ldr (a := Z.ad 4 a32_3_16.toInt.toNat) x L17 52 0 al19 rfl (by omega) (show a32_3_16.toInt < (((2 * Z.n) : Nat) : Int) from (by omega)) (by show some (cSd Z a32_3_16.toInt.toNat) = _; unfold cSd; rw [if_pos hc70]) dX11_tick_46 ?_
                    refine lv_astore (lv' := [(4, .ref (Z.ad 4 a32_3_16.toInt.toNat)), (0, .ref (Z.ad 11 i0)), (1, .int p1), (2, .int a15_2_6), (3, .int a32_3_16)]) hx hb dX11_tick_47 hl (by decide) rfl (fun ls hl => ?_)
                    refine lv_aload hx hb dX11_tick_49 (lv_at hl 0 rfl) ?_
                    have al73 : Z.al 5 a32_3_16.toInt.toNat := hz.2 5 a32_3_16.toInt.toNat (show a32_3_16.toInt.toNat < 2 * Z.n from (by omega))
                    refine c_getr (a := Z.ad 5 a32_3_16.toInt.toNat) x L17 4 a32_3_16.toInt.toNat 1 al71 rfl rfl (wk_in kf_X11_85) dX11_tick_51 ?_
                    refine lv_aload_n hx hb dX11_tick_54 rfl (lv_at hl 1 rfl) ?_
                    refine c_geti x L17 11 i0 10 362 al18 rfl rfl (wk_in kf_X11_82) dX11_tick_55 (fun v74 ev74 wv74 => ?_)
                    have rv74 : rg (-2147483648) (2147483647) v74 := rg_any v74
                    replace hW := (wfP_i (wfP_i (wfP_a hW v74) ev74) rv74)
                    have uv74 : (-2147483648 : Int) ≤ v74.toInt ∧ v74.toInt ≤ 2147483647 := rv74
                    refine c_ci (As := [.int v74]) (rest := []) x hml L17 5 a32_3_16.toInt.toNat al73 rfl (d_ktimers l (X + (16960 * a15_2_6.toInt)) g17 a32_3_16.toInt.toNat v74 ⟨by omega, by omega⟩ (show a32_3_16.toInt.toNat < 2 * Z.n from (by omega)) hW) (wk_V kd_X5_timers kl_X11_89 ki_X5_timers ks_X5_X5_timers kn_X5) rfl ⟨rfl, rfl⟩ hd_ktimers ⟨Nat.le_of_ble_eq_true rfl, Nat.le_of_ble_eq_true rfl⟩ rfl hl.1 rfl (lv_room (Nat.le_of_ble_eq_true rfl)) dX11_tick_58 (fun v76 g75 H75 k75 hp75 L75 => ?_) hcs
                    obtain ⟨hW, hi75, hp75⟩ := hp75
                    replace hW := wfP_i hW ⟨hi75, hp75⟩
                    have rv76 : rg (0) (1) v76 := hp75.2.1
                    have uv76 : (0 : Int) ≤ v76.toInt ∧ v76.toInt ≤ 1 := rv76
                    refine lv_if_eq (tgt := 73) hx hb dX11_tick_61 (by decide) (fun c61_77 => ?_) (fun c61_77 => ?_)
                    · skip
                      replace hW := wfP_i (wfP_l hW) (i_eq c61_77 rfl (rg_i kc_0))
                      have ic61_77 := congrArg Int32.toInt c61_77
                      have y78 : (0 : Int32).toInt = 0 := by decide
                      have q79 : rg (0) (0) v76 := (rg_eq c61_77 rv76 kc_0).1
                      have uq79 : (0 : Int) ≤ v76.toInt ∧ v76.toInt ≤ 0 := q79
                      refine lv_aload hx hb dX11_tick_73 (lv_at hl 0 rfl) ?_
                      refine lv_aload_n hx hb dX11_tick_75 rfl (lv_at hl 1 rfl) ?_
                      refine c_geti x L75 11 i0 10 362 al18 rfl rfl (wk_in kf_X11_82) dX11_tick_76 (fun v80 ev80 wv80 => ?_)
                      refine m_top (((mm_fr ev74 hp75.1 rfl)).trans ev80.symm) ?_
                      refine c_cvU (n := 1) (owner := "CellSwitch$Side") (x0 := ⟨"CellSwitch$Side", "callTimers", "(I)V"⟩) (As := [.int v74]) (rest := []) x hml L75 4 a32_3_16.toInt.toNat al71 rfl (d_kcallTimers_4 l (X + (16960 * a15_2_6.toInt)) g75 a32_3_16.toInt.toNat v74 ⟨by omega, by omega⟩ (cJ_fr hJ17 hp75.1 rfl) (show a32_3_16.toInt.toNat < Z.n from (by omega)) hW) (wk_U kd_X8_callTimers kl_X11_96 km_CellSwitchSide_CellSwitchSide_callTimers ks_X4_CellSwitchSide_X8_callTimers ki_X8_callTimers kn_X8) rfl ⟨rfl, rfl⟩ rfl (by decide +kernel) ⟨Nat.le_of_ble_eq_true rfl, Nat.le_of_ble_eq_true rfl⟩ rfl hl.1 rfl (lv_room (Nat.le_of_ble_eq_true rfl)) dX11_tick_79 (fun  g81 H81 k81 hp81 L81 => ?_) hcs
                      obtain ⟨hW, hi81, hp81⟩ := hp81
                      replace hW := wfP_i hW ⟨hi81, hp81⟩
                      refine lv_aload hx hb dX11_tick_82 (lv_at hl 0 rfl) ?_
                      refine c_getr (a := Z.ad 5 a32_3_16.toInt.toNat) x L81 4 a32_3_16.toInt.toNat 1 al71 rfl rfl (wk_in kf_X11_85) dX11_tick_84 ?_
                      refine lv_aload_n hx hb dX11_tick_87 rfl (lv_at hl 1 rfl) ?_
                      refine c_geti x L81 11 i0 10 362 al18 rfl rfl (wk_in kf_X11_82) dX11_tick_88 (fun v82 ev82 wv82 => ?_)
                      refine m_top (((mm_fr (mm_fr ev74 hp75.1 rfl) hp81.1 rfl)).trans ev82.symm) ?_
                      refine c_cv (As := [.int v74]) (rest := []) x hml L81 5 a32_3_16.toInt.toNat al73 rfl (d_kturn l (X + (16960 * a15_2_6.toInt)) g81 a32_3_16.toInt.toNat v74 ⟨by omega, by omega⟩ (show a32_3_16.toInt.toNat < 2 * Z.n from (by omega)) hW) (wk_V kd_X5_turn kl_X11_99 ki_X5_turn ks_X5_X5_turn kn_X5) rfl ⟨rfl, rfl⟩ hd_kturn ⟨Nat.le_of_ble_eq_true rfl, Nat.le_of_ble_eq_true rfl⟩ rfl hl.1 rfl (lv_room (Nat.le_of_ble_eq_true rfl)) dX11_tick_91 (fun  g83 H83 k83 hp83 L83 => ?_) hcs
                      obtain ⟨hW, hi83, hp83⟩ := hp83
                      replace hW := wfP_i hW ⟨hi83, hp83⟩
                      obtain ⟨v84, ev84, fv84⟩ := inc_ex a32_3_16 (1) (1 : Int32) (by decide)
                      have rv84 : rg (1) (8) v84 := (rg_add ev84 q69 kc_1 rfl).1
                      have tv84 := (rg_add ev84 q69 kc_1 rfl).2
                      have yv84 : (1 : Int32).toInt = 1 := by decide
                      replace hW := (wfP_i (wfP_i (wfP_i (wfP_a hW v84) ev84) rv84) (w_iadd tv84 rfl (rg_i kc_1)))
                      refine lv_iinc (v := v84) (lv' := [(3, .int v84), (4, .ref (Z.ad 4 a32_3_16.toInt.toNat)), (0, .ref (Z.ad 11 i0)), (1, .int p1), (2, .int a15_2_6)]) hx hb dX11_tick_94 hl (k := 4) rfl fv84 (by decide) rfl (fun ls hl => ?_)
                      refine lv_goto (tgt := 32) hx hb dX11_tick_97 (by decide) ?_
                      exact ih17 _ (ms_up tv84 kc_1 q69 rfl rfl) v84 Z g83 _ _ ls _ _ (mFr.tr (mFr.tr (mFr.tr hF17 hp75.1 rfl) hp81.1 rfl) hp83.1 rfl) (mFi.sub (mFi.sub (mFi.sub hI17 hi75 (mSub_any 22 rfl (mSub_any 26 rfl (mSub_any 28 rfl (mSub_any 31 rfl (mSub_any 32 rfl (mSub_any 33 rfl (mSub_any 34 rfl (mSub_any 35 rfl (mSub_any 36 rfl (mSub_any 37 rfl (mSub_any 38 rfl (mSub_any 39 rfl (mSub_any 44 rfl (mSub_any 45 rfl (mSub_any 46 rfl (mSub_any 48 rfl (mSub_any 49 rfl (mSub_any 76 rfl (mSub_any 76 rfl (mSub_any 77 rfl (mSub_any 77 rfl (mSub_any 79 rfl (mSub_any 80 rfl (mSub_any 86 rfl (mSub_any 89 rfl (mSub_any 90 rfl (mSub_any 97 rfl (mSub_any 97 rfl (mSub_any 99 rfl (mSub_any 99 rfl mSub_nil))))))))))))))))))))))))))))))) hi81 (mSub_any 7 rfl (mSub_any 11 rfl (mSub_any 12 rfl (mSub_any 13 rfl (mSub_any 15 rfl (mSub_any 16 rfl (mSub_any 17 rfl (mSub_any 19 rfl (mSub_any 49 rfl (mSub_any 88 rfl (mSub_any 89 rfl mSub_nil)))))))))))) hi83 (mSub_any 22 rfl (mSub_any 26 rfl (mSub_any 28 rfl (mSub_any 31 rfl (mSub_any 32 rfl (mSub_any 35 rfl (mSub_any 40 rfl (mSub_any 43 rfl (mSub_any 44 rfl (mSub_any 45 rfl (mSub_any 46 rfl (mSub_any 48 rfl (mSub_any 49 rfl (mSub_any 79 rfl (mSub_any 80 rfl (mSub_any 86 rfl (mSub_any 96 rfl (mSub_any 97 rfl (mSub_any 98 rfl (mSub_any 99 rfl mSub_nil))))))))))))))))))))) xa (cL.mono L83 (by omega)) hzl hcs (cJ_fr hp81.2.1 hp83.1 rfl) (rg_w rv84 rfl) hW (lv_sub hl [2, 3, 4, 0] rfl) rfl
                    · skip
                      replace hW := wfP_i (wfP_r hW) (i_ne c61_77 rfl (rg_i kc_0))
                      have ic61_77 : v76.toInt ≠ (0 : Int32).toInt := fun z => c61_77 (Int32.toInt_inj.mp z)
                      have y85 : (0 : Int32).toInt = 0 := by decide
                      have q86 : rg (1) (1) v76 := rg_neL c61_77 rv76 kc_0
                      have uq86 : (1 : Int) ≤ v76.toInt ∧ v76.toInt ≤ 1 := q86
                      refine lv_aload hx hb dX11_tick_64 (lv_at hl 0 rfl) ?_
                      refine lv_aload_n hx hb dX11_tick_66 rfl (lv_at hl 1 rfl) ?_
                      refine c_geti x L75 11 i0 10 362 al18 rfl rfl (wk_in kf_X11_82) dX11_tick_67 (fun v87 ev87 wv87 => ?_)
                      refine m_top (((mm_fr ev74 hp75.1 rfl)).trans ev87.symm) ?_
                      refine c_cvU (n := 1) (owner := "CellSwitch$Side") (x0 := ⟨"CellSwitch$Side", "allOver", "(I)V"⟩) (As := [.int v74]) (rest := []) x hml L75 4 a32_3_16.toInt.toNat al71 rfl (d_kallOver_4 l (X + (16960 * a15_2_6.toInt)) g75 a32_3_16.toInt.toNat v74 ⟨by omega, by omega⟩ (cJ_fr hJ17 hp75.1 rfl) (show a32_3_16.toInt.toNat < Z.n from (by omega)) hW) (wk_U kd_X8_allOver kl_X11_93 km_CellSwitchSide_CellSwitchSide_allOver ks_X4_CellSwitchSide_X8_allOver ki_X8_allOver kn_X8) rfl ⟨rfl, rfl⟩ rfl (by decide +kernel) ⟨Nat.le_of_ble_eq_true rfl, Nat.le_of_ble_eq_true rfl⟩ rfl hl.1 rfl (lv_room (Nat.le_of_ble_eq_true rfl)) dX11_tick_70 (fun  g88 H88 k88 hp88 L88 => ?_) hcs
                      obtain ⟨hW, hi88, hp88⟩ := hp88
                      replace hW := wfP_i hW ⟨hi88, hp88⟩
                      refine lv_aload hx hb dX11_tick_73 (lv_at hl 0 rfl) ?_
                      refine lv_aload_n hx hb dX11_tick_75 rfl (lv_at hl 1 rfl) ?_
                      refine c_geti x L88 11 i0 10 362 al18 rfl rfl (wk_in kf_X11_82) dX11_tick_76 (fun v89 ev89 wv89 => ?_)
                      refine m_top (((mm_fr (mm_fr ev74 hp75.1 rfl) hp88.1 rfl)).trans ev89.symm) ?_
                      refine c_cvU (n := 1) (owner := "CellSwitch$Side") (x0 := ⟨"CellSwitch$Side", "callTimers", "(I)V"⟩) (As := [.int v74]) (rest := []) x hml L88 4 a32_3_16.toInt.toNat al71 rfl (d_kcallTimers_4 l (X + (16960 * a15_2_6.toInt)) g88 a32_3_16.toInt.toNat v74 ⟨by omega, by omega⟩ hp88.2.1 (show a32_3_16.toInt.toNat < Z.n from (by omega)) hW) (wk_U kd_X8_callTimers kl_X11_96 km_CellSwitchSide_CellSwitchSide_callTimers ks_X4_CellSwitchSide_X8_callTimers ki_X8_callTimers kn_X8) rfl ⟨rfl, rfl⟩ rfl (by decide +kernel) ⟨Nat.le_of_ble_eq_true rfl, Nat.le_of_ble_eq_true rfl⟩ rfl hl.1 rfl (lv_room (Nat.le_of_ble_eq_true rfl)) dX11_tick_79 (fun  g90 H90 k90 hp90 L90 => ?_) hcs
                      obtain ⟨hW, hi90, hp90⟩ := hp90
                      replace hW := wfP_i hW ⟨hi90, hp90⟩
                      refine lv_aload hx hb dX11_tick_82 (lv_at hl 0 rfl) ?_
                      refine c_getr (a := Z.ad 5 a32_3_16.toInt.toNat) x L90 4 a32_3_16.toInt.toNat 1 al71 rfl rfl (wk_in kf_X11_85) dX11_tick_84 ?_
                      refine lv_aload_n hx hb dX11_tick_87 rfl (lv_at hl 1 rfl) ?_
                      refine c_geti x L90 11 i0 10 362 al18 rfl rfl (wk_in kf_X11_82) dX11_tick_88 (fun v91 ev91 wv91 => ?_)
                      refine m_top (((mm_fr (mm_fr (mm_fr ev74 hp75.1 rfl) hp88.1 rfl) hp90.1 rfl)).trans ev91.symm) ?_
                      refine c_cv (As := [.int v74]) (rest := []) x hml L90 5 a32_3_16.toInt.toNat al73 rfl (d_kturn l (X + (16960 * a15_2_6.toInt)) g90 a32_3_16.toInt.toNat v74 ⟨by omega, by omega⟩ (show a32_3_16.toInt.toNat < 2 * Z.n from (by omega)) hW) (wk_V kd_X5_turn kl_X11_99 ki_X5_turn ks_X5_X5_turn kn_X5) rfl ⟨rfl, rfl⟩ hd_kturn ⟨Nat.le_of_ble_eq_true rfl, Nat.le_of_ble_eq_true rfl⟩ rfl hl.1 rfl (lv_room (Nat.le_of_ble_eq_true rfl)) dX11_tick_91 (fun  g92 H92 k92 hp92 L92 => ?_) hcs
                      obtain ⟨hW, hi92, hp92⟩ := hp92
                      replace hW := wfP_i hW ⟨hi92, hp92⟩
                      obtain ⟨v93, ev93, fv93⟩ := inc_ex a32_3_16 (1) (1 : Int32) (by decide)
                      have rv93 : rg (1) (8) v93 := (rg_add ev93 q69 kc_1 rfl).1
                      have tv93 := (rg_add ev93 q69 kc_1 rfl).2
                      have yv93 : (1 : Int32).toInt = 1 := by decide
                      replace hW := (wfP_i (wfP_i (wfP_i (wfP_a hW v93) ev93) rv93) (w_iadd tv93 rfl (rg_i kc_1)))
                      refine lv_iinc (v := v93) (lv' := [(3, .int v93), (4, .ref (Z.ad 4 a32_3_16.toInt.toNat)), (0, .ref (Z.ad 11 i0)), (1, .int p1), (2, .int a15_2_6)]) hx hb dX11_tick_94 hl (k := 4) rfl fv93 (by decide) rfl (fun ls hl => ?_)
                      refine lv_goto (tgt := 32) hx hb dX11_tick_97 (by decide) ?_
                      exact ih17 _ (ms_up tv93 kc_1 q69 rfl rfl) v93 Z g92 _ _ ls _ _ (mFr.tr (mFr.tr (mFr.tr (mFr.tr hF17 hp75.1 rfl) hp88.1 rfl) hp90.1 rfl) hp92.1 rfl) (mFi.sub (mFi.sub (mFi.sub (mFi.sub hI17 hi75 (mSub_any 22 rfl (mSub_any 26 rfl (mSub_any 28 rfl (mSub_any 31 rfl (mSub_any 32 rfl (mSub_any 33 rfl (mSub_any 34 rfl (mSub_any 35 rfl (mSub_any 36 rfl (mSub_any 37 rfl (mSub_any 38 rfl (mSub_any 39 rfl (mSub_any 44 rfl (mSub_any 45 rfl (mSub_any 46 rfl (mSub_any 48 rfl (mSub_any 49 rfl (mSub_any 76 rfl (mSub_any 76 rfl (mSub_any 77 rfl (mSub_any 77 rfl (mSub_any 79 rfl (mSub_any 80 rfl (mSub_any 86 rfl (mSub_any 89 rfl (mSub_any 90 rfl (mSub_any 97 rfl (mSub_any 97 rfl (mSub_any 99 rfl (mSub_any 99 rfl mSub_nil))))))))))))))))))))))))))))))) hi88 (mSub_any 7 rfl (mSub_any 11 rfl (mSub_any 12 rfl (mSub_any 13 rfl (mSub_any 15 rfl (mSub_any 16 rfl (mSub_any 17 rfl (mSub_any 19 rfl (mSub_any 49 rfl (mSub_any 88 rfl (mSub_any 89 rfl mSub_nil)))))))))))) hi90 (mSub_any 7 rfl (mSub_any 11 rfl (mSub_any 12 rfl (mSub_any 13 rfl (mSub_any 15 rfl (mSub_any 16 rfl (mSub_any 17 rfl (mSub_any 19 rfl (mSub_any 49 rfl (mSub_any 88 rfl (mSub_any 89 rfl mSub_nil)))))))))))) hi92 (mSub_any 22 rfl (mSub_any 26 rfl (mSub_any 28 rfl (mSub_any 31 rfl (mSub_any 32 rfl (mSub_any 35 rfl (mSub_any 40 rfl (mSub_any 43 rfl (mSub_any 44 rfl (mSub_any 45 rfl (mSub_any 46 rfl (mSub_any 48 rfl (mSub_any 49 rfl (mSub_any 79 rfl (mSub_any 80 rfl (mSub_any 86 rfl (mSub_any 96 rfl (mSub_any 97 rfl (mSub_any 98 rfl (mSub_any 99 rfl mSub_nil))))))))))))))))))))) xa (cL.mono L92 (by omega)) hzl hcs (cJ_fr hp90.2.1 hp92.1 rfl) (rg_w rv93 rfl) hW (lv_sub hl [2, 3, 4, 0] rfl) rfl
                  · skip
                    replace hW := wfP_i (wfP_r hW) hc70
                    have al72 : Z.al 10 (a32_3_16.toInt.toNat - Z.n) := hz.2 10 (a32_3_16.toInt.toNat - Z.n) (show (a32_3_16.toInt.toNat - Z.n) < Z.n from (by omega))
                    refine c_ldr (a := Z.ad 10 (a32_3_16.toInt.toNat - Z.n)) x L17 52 0 al19 rfl (by omega) (show a32_3_16.toInt < (((2 * Z.n) : Nat) : Int) from (by omega)) (by show some (cSd Z a32_3_16.toInt.toNat) = _; unfold cSd; rw [if_neg (Nat.not_lt.mpr hc70)]) dX11_tick_46 ?_
                    obtain ⟨sx94, hsx94⟩ : ∃ y : Nat, y = (a32_3_16.toInt.toNat - Z.n) := ⟨_, rfl⟩
                    rw [← hsx94]
                    replace hW := (wfP_i (wfP_a hW sx94) hsx94)
                    have al95 : Z.al 10 sx94 := hz.2 10 sx94 (show sx94 < Z.n from (by omega))
                    refine lv_astore (lv' := [(4, .ref (Z.ad 10 sx94)), (0, .ref (Z.ad 11 i0)), (1, .int p1), (2, .int a15_2_6), (3, .int a32_3_16)]) hx hb dX11_tick_47 hl (by decide) rfl (fun ls hl => ?_)
                    refine lv_aload hx hb dX11_tick_49 (lv_at hl 0 rfl) ?_
                    have al96 : Z.al 5 (Z.n + sx94) := hz.2 5 (Z.n + sx94) (show (Z.n + sx94) < 2 * Z.n from (by omega))
                    refine c_getr (a := Z.ad 5 (Z.n + sx94)) x L17 10 sx94 1 al95 rfl rfl (wk_in kf_X11_85) dX11_tick_51 ?_
                    refine lv_aload_n hx hb dX11_tick_54 rfl (lv_at hl 1 rfl) ?_
                    refine c_geti x L17 11 i0 10 362 al18 rfl rfl (wk_in kf_X11_82) dX11_tick_55 (fun v97 ev97 wv97 => ?_)
                    have rv97 : rg (-2147483648) (2147483647) v97 := rg_any v97
                    replace hW := (wfP_i (wfP_i (wfP_a hW v97) ev97) rv97)
                    have uv97 : (-2147483648 : Int) ≤ v97.toInt ∧ v97.toInt ≤ 2147483647 := rv97
                    refine c_ci (As := [.int v97]) (rest := []) x hml L17 5 (Z.n + sx94) al96 rfl (d_ktimers l (X + (16960 * a15_2_6.toInt)) g17 (Z.n + sx94) v97 ⟨by omega, by omega⟩ (show (Z.n + sx94) < 2 * Z.n from (by omega)) hW) (wk_V kd_X5_timers kl_X11_89 ki_X5_timers ks_X5_X5_timers kn_X5) rfl ⟨rfl, rfl⟩ hd_ktimers ⟨Nat.le_of_ble_eq_true rfl, Nat.le_of_ble_eq_true rfl⟩ rfl hl.1 rfl (lv_room (Nat.le_of_ble_eq_true rfl)) dX11_tick_58 (fun v99 g98 H98 k98 hp98 L98 => ?_) hcs
                    obtain ⟨hW, hi98, hp98⟩ := hp98
                    replace hW := wfP_i hW ⟨hi98, hp98⟩
                    have rv99 : rg (0) (1) v99 := hp98.2.1
                    have uv99 : (0 : Int) ≤ v99.toInt ∧ v99.toInt ≤ 1 := rv99
                    refine lv_if_eq (tgt := 73) hx hb dX11_tick_61 (by decide) (fun c61_100 => ?_) (fun c61_100 => ?_)
                    · skip
                      replace hW := wfP_i (wfP_l hW) (i_eq c61_100 rfl (rg_i kc_0))
                      have ic61_100 := congrArg Int32.toInt c61_100
                      have y101 : (0 : Int32).toInt = 0 := by decide
                      have q102 : rg (0) (0) v99 := (rg_eq c61_100 rv99 kc_0).1
                      have uq102 : (0 : Int) ≤ v99.toInt ∧ v99.toInt ≤ 0 := q102
                      refine lv_aload hx hb dX11_tick_73 (lv_at hl 0 rfl) ?_
                      refine lv_aload_n hx hb dX11_tick_75 rfl (lv_at hl 1 rfl) ?_
                      refine c_geti x L98 11 i0 10 362 al18 rfl rfl (wk_in kf_X11_82) dX11_tick_76 (fun v103 ev103 wv103 => ?_)
                      refine m_top (((mm_fr ev97 hp98.1 rfl)).trans ev103.symm) ?_
                      refine c_cvU (n := 1) (owner := "CellSwitch$Side") (x0 := ⟨"CellSwitch$Side", "callTimers", "(I)V"⟩) (As := [.int v97]) (rest := []) x hml L98 10 sx94 al95 rfl (d_kcallTimers_10 l (X + (16960 * a15_2_6.toInt)) g98 sx94 v97 ⟨by omega, by omega⟩ (cJ_fr hJ17 hp98.1 rfl) (show sx94 < Z.n from (by omega)) hW) (wk_U kd_X8_callTimers kl_X11_96 km_CellSwitchSide_CellSwitchSide_callTimers ks_X10_CellSwitchSide_X8_callTimers ki_X8_callTimers kn_X8) rfl ⟨rfl, rfl⟩ rfl (by decide +kernel) ⟨Nat.le_of_ble_eq_true rfl, Nat.le_of_ble_eq_true rfl⟩ rfl hl.1 rfl (lv_room (Nat.le_of_ble_eq_true rfl)) dX11_tick_79 (fun  g104 H104 k104 hp104 L104 => ?_) hcs
                      obtain ⟨hW, hi104, hp104⟩ := hp104
                      replace hW := wfP_i hW ⟨hi104, hp104⟩
                      refine lv_aload hx hb dX11_tick_82 (lv_at hl 0 rfl) ?_
                      refine c_getr (a := Z.ad 5 (Z.n + sx94)) x L104 10 sx94 1 al95 rfl rfl (wk_in kf_X11_85) dX11_tick_84 ?_
                      refine lv_aload_n hx hb dX11_tick_87 rfl (lv_at hl 1 rfl) ?_
                      refine c_geti x L104 11 i0 10 362 al18 rfl rfl (wk_in kf_X11_82) dX11_tick_88 (fun v105 ev105 wv105 => ?_)
                      refine m_top (((mm_fr (mm_fr ev97 hp98.1 rfl) hp104.1 rfl)).trans ev105.symm) ?_
                      refine c_cv (As := [.int v97]) (rest := []) x hml L104 5 (Z.n + sx94) al96 rfl (d_kturn l (X + (16960 * a15_2_6.toInt)) g104 (Z.n + sx94) v97 ⟨by omega, by omega⟩ (show (Z.n + sx94) < 2 * Z.n from (by omega)) hW) (wk_V kd_X5_turn kl_X11_99 ki_X5_turn ks_X5_X5_turn kn_X5) rfl ⟨rfl, rfl⟩ hd_kturn ⟨Nat.le_of_ble_eq_true rfl, Nat.le_of_ble_eq_true rfl⟩ rfl hl.1 rfl (lv_room (Nat.le_of_ble_eq_true rfl)) dX11_tick_91 (fun  g106 H106 k106 hp106 L106 => ?_) hcs
                      obtain ⟨hW, hi106, hp106⟩ := hp106
                      replace hW := wfP_i hW ⟨hi106, hp106⟩
                      obtain ⟨v107, ev107, fv107⟩ := inc_ex a32_3_16 (1) (1 : Int32) (by decide)
                      have rv107 : rg (1) (8) v107 := (rg_add ev107 q69 kc_1 rfl).1
                      have tv107 := (rg_add ev107 q69 kc_1 rfl).2
                      have yv107 : (1 : Int32).toInt = 1 := by decide
                      replace hW := (wfP_i (wfP_i (wfP_i (wfP_a hW v107) ev107) rv107) (w_iadd tv107 rfl (rg_i kc_1)))
                      refine lv_iinc (v := v107) (lv' := [(3, .int v107), (4, .ref (Z.ad 10 sx94)), (0, .ref (Z.ad 11 i0)), (1, .int p1), (2, .int a15_2_6)]) hx hb dX11_tick_94 hl (k := 4) rfl fv107 (by decide) rfl (fun ls hl => ?_)
                      refine lv_goto (tgt := 32) hx hb dX11_tick_97 (by decide) ?_
                      exact ih17 _ (ms_up tv107 kc_1 q69 rfl rfl) v107 Z g106 _ _ ls _ _ (mFr.tr (mFr.tr (mFr.tr hF17 hp98.1 rfl) hp104.1 rfl) hp106.1 rfl) (mFi.sub (mFi.sub (mFi.sub hI17 hi98 (mSub_any 22 rfl (mSub_any 26 rfl (mSub_any 28 rfl (mSub_any 31 rfl (mSub_any 32 rfl (mSub_any 33 rfl (mSub_any 34 rfl (mSub_any 35 rfl (mSub_any 36 rfl (mSub_any 37 rfl (mSub_any 38 rfl (mSub_any 39 rfl (mSub_any 44 rfl (mSub_any 45 rfl (mSub_any 46 rfl (mSub_any 48 rfl (mSub_any 49 rfl (mSub_any 76 rfl (mSub_any 76 rfl (mSub_any 77 rfl (mSub_any 77 rfl (mSub_any 79 rfl (mSub_any 80 rfl (mSub_any 86 rfl (mSub_any 89 rfl (mSub_any 90 rfl (mSub_any 97 rfl (mSub_any 97 rfl (mSub_any 99 rfl (mSub_any 99 rfl mSub_nil))))))))))))))))))))))))))))))) hi104 (mSub_any 7 rfl (mSub_any 11 rfl (mSub_any 12 rfl (mSub_any 13 rfl (mSub_any 15 rfl (mSub_any 16 rfl (mSub_any 17 rfl (mSub_any 19 rfl (mSub_any 49 rfl (mSub_any 88 rfl (mSub_any 89 rfl mSub_nil)))))))))))) hi106 (mSub_any 22 rfl (mSub_any 26 rfl (mSub_any 28 rfl (mSub_any 31 rfl (mSub_any 32 rfl (mSub_any 35 rfl (mSub_any 40 rfl (mSub_any 43 rfl (mSub_any 44 rfl (mSub_any 45 rfl (mSub_any 46 rfl (mSub_any 48 rfl (mSub_any 49 rfl (mSub_any 79 rfl (mSub_any 80 rfl (mSub_any 86 rfl (mSub_any 96 rfl (mSub_any 97 rfl (mSub_any 98 rfl (mSub_any 99 rfl mSub_nil))))))))))))))))))))) xa (cL.mono L106 (by omega)) hzl hcs (cJ_fr hp104.2.1 hp106.1 rfl) (rg_w rv107 rfl) hW (lv_sub hl [2, 3, 4, 0] rfl) rfl
                    · skip
                      replace hW := wfP_i (wfP_r hW) (i_ne c61_100 rfl (rg_i kc_0))
                      have ic61_100 : v99.toInt ≠ (0 : Int32).toInt := fun z => c61_100 (Int32.toInt_inj.mp z)
                      have y108 : (0 : Int32).toInt = 0 := by decide
                      have q109 : rg (1) (1) v99 := rg_neL c61_100 rv99 kc_0
                      have uq109 : (1 : Int) ≤ v99.toInt ∧ v99.toInt ≤ 1 := q109
                      refine lv_aload hx hb dX11_tick_64 (lv_at hl 0 rfl) ?_
                      refine lv_aload_n hx hb dX11_tick_66 rfl (lv_at hl 1 rfl) ?_
                      refine c_geti x L98 11 i0 10 362 al18 rfl rfl (wk_in kf_X11_82) dX11_tick_67 (fun v110 ev110 wv110 => ?_)
                      refine m_top (((mm_fr ev97 hp98.1 rfl)).trans ev110.symm) ?_
                      refine c_cvU (n := 1) (owner := "CellSwitch$Side") (x0 := ⟨"CellSwitch$Side", "allOver", "(I)V"⟩) (As := [.int v97]) (rest := []) x hml L98 10 sx94 al95 rfl (d_kallOver_10 l (X + (16960 * a15_2_6.toInt)) g98 sx94 v97 ⟨by omega, by omega⟩ (cJ_fr hJ17 hp98.1 rfl) (show sx94 < Z.n from (by omega)) hW) (wk_U kd_X8_allOver kl_X11_93 km_CellSwitchSide_CellSwitchSide_allOver ks_X10_CellSwitchSide_X8_allOver ki_X8_allOver kn_X8) rfl ⟨rfl, rfl⟩ rfl (by decide +kernel) ⟨Nat.le_of_ble_eq_true rfl, Nat.le_of_ble_eq_true rfl⟩ rfl hl.1 rfl (lv_room (Nat.le_of_ble_eq_true rfl)) dX11_tick_70 (fun  g111 H111 k111 hp111 L111 => ?_) hcs
                      obtain ⟨hW, hi111, hp111⟩ := hp111
                      replace hW := wfP_i hW ⟨hi111, hp111⟩
                      refine lv_aload hx hb dX11_tick_73 (lv_at hl 0 rfl) ?_
                      refine lv_aload_n hx hb dX11_tick_75 rfl (lv_at hl 1 rfl) ?_
                      refine c_geti x L111 11 i0 10 362 al18 rfl rfl (wk_in kf_X11_82) dX11_tick_76 (fun v112 ev112 wv112 => ?_)
                      refine m_top (((mm_fr (mm_fr ev97 hp98.1 rfl) hp111.1 rfl)).trans ev112.symm) ?_
                      refine c_cvU (n := 1) (owner := "CellSwitch$Side") (x0 := ⟨"CellSwitch$Side", "callTimers", "(I)V"⟩) (As := [.int v97]) (rest := []) x hml L111 10 sx94 al95 rfl (d_kcallTimers_10 l (X + (16960 * a15_2_6.toInt)) g111 sx94 v97 ⟨by omega, by omega⟩ hp111.2.1 (show sx94 < Z.n from (by omega)) hW) (wk_U kd_X8_callTimers kl_X11_96 km_CellSwitchSide_CellSwitchSide_callTimers ks_X10_CellSwitchSide_X8_callTimers ki_X8_callTimers kn_X8) rfl ⟨rfl, rfl⟩ rfl (by decide +kernel) ⟨Nat.le_of_ble_eq_true rfl, Nat.le_of_ble_eq_true rfl⟩ rfl hl.1 rfl (lv_room (Nat.le_of_ble_eq_true rfl)) dX11_tick_79 (fun  g113 H113 k113 hp113 L113 => ?_) hcs
                      obtain ⟨hW, hi113, hp113⟩ := hp113
                      replace hW := wfP_i hW ⟨hi113, hp113⟩
                      refine lv_aload hx hb dX11_tick_82 (lv_at hl 0 rfl) ?_
                      refine c_getr (a := Z.ad 5 (Z.n + sx94)) x L113 10 sx94 1 al95 rfl rfl (wk_in kf_X11_85) dX11_tick_84 ?_
                      refine lv_aload_n hx hb dX11_tick_87 rfl (lv_at hl 1 rfl) ?_
                      refine c_geti x L113 11 i0 10 362 al18 rfl rfl (wk_in kf_X11_82) dX11_tick_88 (fun v114 ev114 wv114 => ?_)
                      refine m_top (((mm_fr (mm_fr (mm_fr ev97 hp98.1 rfl) hp111.1 rfl) hp113.1 rfl)).trans ev114.symm) ?_
                      refine c_cv (As := [.int v97]) (rest := []) x hml L113 5 (Z.n + sx94) al96 rfl (d_kturn l (X + (16960 * a15_2_6.toInt)) g113 (Z.n + sx94) v97 ⟨by omega, by omega⟩ (show (Z.n + sx94) < 2 * Z.n from (by omega)) hW) (wk_V kd_X5_turn kl_X11_99 ki_X5_turn ks_X5_X5_turn kn_X5) rfl ⟨rfl, rfl⟩ hd_kturn ⟨Nat.le_of_ble_eq_true rfl, Nat.le_of_ble_eq_true rfl⟩ rfl hl.1 rfl (lv_room (Nat.le_of_ble_eq_true rfl)) dX11_tick_91 (fun  g115 H115 k115 hp115 L115 => ?_) hcs
                      obtain ⟨hW, hi115, hp115⟩ := hp115
                      replace hW := wfP_i hW ⟨hi115, hp115⟩
                      obtain ⟨v116, ev116, fv116⟩ := inc_ex a32_3_16 (1) (1 : Int32) (by decide)
                      have rv116 : rg (1) (8) v116 := (rg_add ev116 q69 kc_1 rfl).1
                      have tv116 := (rg_add ev116 q69 kc_1 rfl).2
                      have yv116 : (1 : Int32).toInt = 1 := by decide
                      replace hW := (wfP_i (wfP_i (wfP_i (wfP_a hW v116) ev116) rv116) (w_iadd tv116 rfl (rg_i kc_1)))
                      refine lv_iinc (v := v116) (lv' := [(3, .int v116), (4, .ref (Z.ad 10 sx94)), (0, .ref (Z.ad 11 i0)), (1, .int p1), (2, .int a15_2_6)]) hx hb dX11_tick_94 hl (k := 4) rfl fv116 (by decide) rfl (fun ls hl => ?_)
                      refine lv_goto (tgt := 32) hx hb dX11_tick_97 (by decide) ?_
                      exact ih17 _ (ms_up tv116 kc_1 q69 rfl rfl) v116 Z g115 _ _ ls _ _ (mFr.tr (mFr.tr (mFr.tr (mFr.tr hF17 hp98.1 rfl) hp111.1 rfl) hp113.1 rfl) hp115.1 rfl) (mFi.sub (mFi.sub (mFi.sub (mFi.sub hI17 hi98 (mSub_any 22 rfl (mSub_any 26 rfl (mSub_any 28 rfl (mSub_any 31 rfl (mSub_any 32 rfl (mSub_any 33 rfl (mSub_any 34 rfl (mSub_any 35 rfl (mSub_any 36 rfl (mSub_any 37 rfl (mSub_any 38 rfl (mSub_any 39 rfl (mSub_any 44 rfl (mSub_any 45 rfl (mSub_any 46 rfl (mSub_any 48 rfl (mSub_any 49 rfl (mSub_any 76 rfl (mSub_any 76 rfl (mSub_any 77 rfl (mSub_any 77 rfl (mSub_any 79 rfl (mSub_any 80 rfl (mSub_any 86 rfl (mSub_any 89 rfl (mSub_any 90 rfl (mSub_any 97 rfl (mSub_any 97 rfl (mSub_any 99 rfl (mSub_any 99 rfl mSub_nil))))))))))))))))))))))))))))))) hi111 (mSub_any 7 rfl (mSub_any 11 rfl (mSub_any 12 rfl (mSub_any 13 rfl (mSub_any 15 rfl (mSub_any 16 rfl (mSub_any 17 rfl (mSub_any 19 rfl (mSub_any 49 rfl (mSub_any 88 rfl (mSub_any 89 rfl mSub_nil)))))))))))) hi113 (mSub_any 7 rfl (mSub_any 11 rfl (mSub_any 12 rfl (mSub_any 13 rfl (mSub_any 15 rfl (mSub_any 16 rfl (mSub_any 17 rfl (mSub_any 19 rfl (mSub_any 49 rfl (mSub_any 88 rfl (mSub_any 89 rfl mSub_nil)))))))))))) hi115 (mSub_any 22 rfl (mSub_any 26 rfl (mSub_any 28 rfl (mSub_any 31 rfl (mSub_any 32 rfl (mSub_any 35 rfl (mSub_any 40 rfl (mSub_any 43 rfl (mSub_any 44 rfl (mSub_any 45 rfl (mSub_any 46 rfl (mSub_any 48 rfl (mSub_any 49 rfl (mSub_any 79 rfl (mSub_any 80 rfl (mSub_any 86 rfl (mSub_any 96 rfl (mSub_any 97 rfl (mSub_any 98 rfl (mSub_any 99 rfl mSub_nil))))))))))))))))))))) xa (cL.mono L115 (by omega)) hzl hcs (cJ_fr hp113.2.1 hp115.1 rfl) (rg_w rv116 rfl) hW (lv_sub hl [2, 3, 4, 0] rfl) rfl
            have y117 : (0 : Int32).toInt = 0 := by decide
            exact j32_17 _ (0 : Int32) Z g15 _ _ ls _ _ mFr.rf mFi.rf xa (cL.mono L15 (by omega)) hzl hcs (cJ_up hJ7 eg15 rfl) (rg_w kc_0 rfl) hW (lv_sub hl [1, 2, 3, 0] rfl) rfl
      have y118 : (0 : Int32).toInt = 0 := by decide
      exact j15_7 _ (0 : Int32) Z g _ _ ls _ _ mFr.rf mFi.rf xa (cL.mono L (by omega)) hzl hcs hJ (rg_w kc_0 rfl) hW (lv_sub hl [1, 2, 0] rfl) rfl
    · skip
      replace hW := wfP_i (wfP_r hW) (i_lt (rg_nle c8_4) (rg_i kc_50) rfl)
      have ic8_4 := Int32.lt_iff_toInt_lt.mp (rg_nle c8_4)
      have q119 : rg (51) (2147483647) p1 := (rg_lt (rg_nle c8_4) kc_50 q3).2
      have uq119 : (51 : Int) ≤ p1.toInt ∧ p1.toInt ≤ 2147483647 := q119
      refine lv_iconst (v := (-1)) hx hb dX11_tick_11 (by decide) ?_
      exact hQ _ _ (-1 : Int32) Z _ _ _ _ _ dX11_tick_12 xa (cL.mono L (by omega)) hzl hcs ⟨hW, mFi.rf, mFr.rf, rg_w kc_m1 rfl, hJ, trivial⟩
theorem d_ktick (l : Launch) {G : cG} {Z : cZ} (X : Int) (g : mSt) (i0 : Nat) (p1 : Int32) (sz a b TC TS : Nat) (hX : 0 ≤ X ∧ (X + 848000) ≤ 2000000000) (hJ : cJ Z g) (hTC : Z.w 0 + a = TC) (hTS : Z.w 1 + b = TS) (hal0 : Z.al 11 i0) {Φ : Int32 → cZ → mSt → Prop} (hW : wfP (wp_ktick TC TS Z i0 p1 g Φ)) : Met l yX11_tick (wk (Cond.code yX11_tick cX11_tick 5 (some .int))) (rm_ktick a b) (va_Pc [.ref (Z.ad 11 i0), .int p1] (cPreA G Z X g sz)) (kE a b (cAf Z sz) (cQiA G Z (X + 848000) (fun r Z1 g1 => wfP (Φ r Z1 g1) ∧ mFi (im_ktick i0 p1) g g1 ∧ (mFr [0, 1, 2, 32, 33, 34, 35, 36, 37, 38, 39, 40, 41, 42, 43, 44, 45, 46, 47, 48, 49, 66, 67, 101, 106, 107, 108, 109, 111, 135, 136, 164, 165, 166, 167, 168, 169, 170, 171, 172, 173, 174, 175, 176, 177, 178, 179, 180, 197, 198, 225, 226, 227, 228, 229, 230, 231, 232, 233, 234, 235, 288, 289, 290, 291, 292, 293, 294, 295, 296, 323, 362, 363, 384, 385, 386, 421, 422, 512, 544, 576, 608, 640, 672, 704, 736, 768, 800, 832, 864, 928, 960, 992, 1024, 1056, 1088, 1248, 1280, 1312, 1344, 1536, 1728, 1729] g g1 ∧ rg (-2147483648) (2147483647) r ∧ cJ Z1 g1 ∧ True)))) a b (cAf Z sz) := by
  refine Met.ofW (cc := cX11_tick) (maxL := 5) (ret := (some .int)) (by decide) rfl ?_
  intro p e s m args below meth c s₁ B hml hv
  obtain ⟨hav, hv⟩ := hv
  have hsz0 := hv.2.1
  subst hsz0
  have hr := B.returns
  have hlocks := B.notSynchronized
  obtain ⟨xa, L⟩ := k_start B rfl (fun w h => wk_in h) hv
  have hent : entryFrame m args 5 = entryFrame m ([.ref (Z.ad 11 i0), .int p1] : List Value).toArray 5 := by rw [hav]
  rw [hent]
  have hl := lv_entry ([.ref (Z.ad 11 i0), .int p1]) (n := 5) (Nat.le_of_ble_eq_true rfl)
  rw [lg_entry_eq]
  generalize (lg_sl ([.ref (Z.ad 11 i0), .int p1]) ++ List.replicate (5 - (lg_sl ([.ref (Z.ad 11 i0), .int p1])).length) Slot.unset).toArray = ls at hl ⊢
  have hl : lv_has ls 5 [(0, .ref (Z.ad 11 i0)), (1, .int p1)] := hl
  exact v_ktick xa hml L hTC hTS hX i0 p1 hJ hal0 hW hl (fun pc' ls' r Z1 g1 H1 locs1 c1 l1 hdg xa L hz hcs hp => k_iret xa L hr hlocks (Int.le_refl _) hz hp hcs.1 hcs.2 hdg)
