/-! small rows for the printed contracts of the reference -/
theorem kc_m10 : rg (-10) (-10) (-10 : Int32) := ⟨by decide, by decide⟩
theorem kc_m9 : rg (-9) (-9) (-9 : Int32) := ⟨by decide, by decide⟩
theorem kc_m8 : rg (-8) (-8) (-8 : Int32) := ⟨by decide, by decide⟩
theorem kc_m7 : rg (-7) (-7) (-7 : Int32) := ⟨by decide, by decide⟩
theorem kc_m6 : rg (-6) (-6) (-6 : Int32) := ⟨by decide, by decide⟩
theorem kc_m5 : rg (-5) (-5) (-5 : Int32) := ⟨by decide, by decide⟩
theorem kc_m4 : rg (-4) (-4) (-4 : Int32) := ⟨by decide, by decide⟩
theorem kc_m3 : rg (-3) (-3) (-3 : Int32) := ⟨by decide, by decide⟩
theorem kc_m2 : rg (-2) (-2) (-2 : Int32) := ⟨by decide, by decide⟩
theorem kc_m1 : rg (-1) (-1) (-1 : Int32) := ⟨by decide, by decide⟩
theorem kc_0 : rg (0) (0) (0 : Int32) := ⟨by decide, by decide⟩
theorem kc_1 : rg (1) (1) (1 : Int32) := ⟨by decide, by decide⟩
theorem kc_2 : rg (2) (2) (2 : Int32) := ⟨by decide, by decide⟩
theorem kc_3 : rg (3) (3) (3 : Int32) := ⟨by decide, by decide⟩
theorem kc_4 : rg (4) (4) (4 : Int32) := ⟨by decide, by decide⟩
theorem kc_5 : rg (5) (5) (5 : Int32) := ⟨by decide, by decide⟩
theorem kc_6 : rg (6) (6) (6 : Int32) := ⟨by decide, by decide⟩
theorem kc_7 : rg (7) (7) (7 : Int32) := ⟨by decide, by decide⟩
theorem kc_8 : rg (8) (8) (8 : Int32) := ⟨by decide, by decide⟩
theorem kc_9 : rg (9) (9) (9 : Int32) := ⟨by decide, by decide⟩
theorem kc_10 : rg (10) (10) (10 : Int32) := ⟨by decide, by decide⟩
theorem kc_11 : rg (11) (11) (11 : Int32) := ⟨by decide, by decide⟩
theorem kc_12 : rg (12) (12) (12 : Int32) := ⟨by decide, by decide⟩
theorem kc_13 : rg (13) (13) (13 : Int32) := ⟨by decide, by decide⟩
theorem kc_14 : rg (14) (14) (14 : Int32) := ⟨by decide, by decide⟩
theorem kc_15 : rg (15) (15) (15 : Int32) := ⟨by decide, by decide⟩
theorem kc_16 : rg (16) (16) (16 : Int32) := ⟨by decide, by decide⟩
theorem kc_17 : rg (17) (17) (17 : Int32) := ⟨by decide, by decide⟩
theorem kc_18 : rg (18) (18) (18 : Int32) := ⟨by decide, by decide⟩
theorem kc_19 : rg (19) (19) (19 : Int32) := ⟨by decide, by decide⟩
theorem kc_20 : rg (20) (20) (20 : Int32) := ⟨by decide, by decide⟩
theorem kc_21 : rg (21) (21) (21 : Int32) := ⟨by decide, by decide⟩
theorem kc_22 : rg (22) (22) (22 : Int32) := ⟨by decide, by decide⟩
theorem kc_23 : rg (23) (23) (23 : Int32) := ⟨by decide, by decide⟩
theorem kc_24 : rg (24) (24) (24 : Int32) := ⟨by decide, by decide⟩
theorem kc_25 : rg (25) (25) (25 : Int32) := ⟨by decide, by decide⟩
theorem kc_26 : rg (26) (26) (26 : Int32) := ⟨by decide, by decide⟩
theorem kc_27 : rg (27) (27) (27 : Int32) := ⟨by decide, by decide⟩
theorem kc_28 : rg (28) (28) (28 : Int32) := ⟨by decide, by decide⟩
theorem kc_29 : rg (29) (29) (29 : Int32) := ⟨by decide, by decide⟩
theorem kc_30 : rg (30) (30) (30 : Int32) := ⟨by decide, by decide⟩
theorem kc_31 : rg (31) (31) (31 : Int32) := ⟨by decide, by decide⟩
theorem kc_32 : rg (32) (32) (32 : Int32) := ⟨by decide, by decide⟩
theorem kc_33 : rg (33) (33) (33 : Int32) := ⟨by decide, by decide⟩
theorem kc_34 : rg (34) (34) (34 : Int32) := ⟨by decide, by decide⟩
theorem kc_35 : rg (35) (35) (35 : Int32) := ⟨by decide, by decide⟩
theorem kc_36 : rg (36) (36) (36 : Int32) := ⟨by decide, by decide⟩
theorem kc_37 : rg (37) (37) (37 : Int32) := ⟨by decide, by decide⟩
theorem kc_38 : rg (38) (38) (38 : Int32) := ⟨by decide, by decide⟩
theorem kc_39 : rg (39) (39) (39 : Int32) := ⟨by decide, by decide⟩
theorem kc_40 : rg (40) (40) (40 : Int32) := ⟨by decide, by decide⟩
theorem kc_41 : rg (41) (41) (41 : Int32) := ⟨by decide, by decide⟩
theorem kc_42 : rg (42) (42) (42 : Int32) := ⟨by decide, by decide⟩
theorem kc_43 : rg (43) (43) (43 : Int32) := ⟨by decide, by decide⟩
theorem kc_44 : rg (44) (44) (44 : Int32) := ⟨by decide, by decide⟩
theorem kc_45 : rg (45) (45) (45 : Int32) := ⟨by decide, by decide⟩
theorem kc_46 : rg (46) (46) (46 : Int32) := ⟨by decide, by decide⟩
theorem kc_47 : rg (47) (47) (47 : Int32) := ⟨by decide, by decide⟩
theorem kc_48 : rg (48) (48) (48 : Int32) := ⟨by decide, by decide⟩
theorem kc_49 : rg (49) (49) (49 : Int32) := ⟨by decide, by decide⟩
theorem kc_50 : rg (50) (50) (50 : Int32) := ⟨by decide, by decide⟩
theorem kc_51 : rg (51) (51) (51 : Int32) := ⟨by decide, by decide⟩
theorem kc_52 : rg (52) (52) (52 : Int32) := ⟨by decide, by decide⟩
theorem kc_53 : rg (53) (53) (53 : Int32) := ⟨by decide, by decide⟩
theorem kc_54 : rg (54) (54) (54 : Int32) := ⟨by decide, by decide⟩
theorem kc_55 : rg (55) (55) (55 : Int32) := ⟨by decide, by decide⟩
theorem kc_56 : rg (56) (56) (56 : Int32) := ⟨by decide, by decide⟩
theorem kc_57 : rg (57) (57) (57 : Int32) := ⟨by decide, by decide⟩
theorem kc_58 : rg (58) (58) (58 : Int32) := ⟨by decide, by decide⟩
theorem kc_59 : rg (59) (59) (59 : Int32) := ⟨by decide, by decide⟩
theorem kc_60 : rg (60) (60) (60 : Int32) := ⟨by decide, by decide⟩
theorem kc_61 : rg (61) (61) (61 : Int32) := ⟨by decide, by decide⟩
theorem kc_62 : rg (62) (62) (62 : Int32) := ⟨by decide, by decide⟩
theorem kc_63 : rg (63) (63) (63 : Int32) := ⟨by decide, by decide⟩
theorem kc_64 : rg (64) (64) (64 : Int32) := ⟨by decide, by decide⟩
theorem kc_65 : rg (65) (65) (65 : Int32) := ⟨by decide, by decide⟩
theorem kc_66 : rg (66) (66) (66 : Int32) := ⟨by decide, by decide⟩
theorem kc_67 : rg (67) (67) (67 : Int32) := ⟨by decide, by decide⟩
theorem kc_68 : rg (68) (68) (68 : Int32) := ⟨by decide, by decide⟩
theorem kc_69 : rg (69) (69) (69 : Int32) := ⟨by decide, by decide⟩
theorem kc_77 : rg (77) (77) (77 : Int32) := ⟨by decide, by decide⟩
theorem kc_81 : rg (81) (81) (81 : Int32) := ⟨by decide, by decide⟩
theorem kc_89 : rg (89) (89) (89 : Int32) := ⟨by decide, by decide⟩
theorem kc_90 : rg (90) (90) (90 : Int32) := ⟨by decide, by decide⟩
theorem kc_96 : rg (96) (96) (96 : Int32) := ⟨by decide, by decide⟩
theorem kc_102 : rg (102) (102) (102 : Int32) := ⟨by decide, by decide⟩
theorem kc_106 : rg (106) (106) (106 : Int32) := ⟨by decide, by decide⟩
theorem kc_108 : rg (108) (108) (108 : Int32) := ⟨by decide, by decide⟩
theorem kc_112 : rg (112) (112) (112 : Int32) := ⟨by decide, by decide⟩
theorem kc_127 : rg (127) (127) (127 : Int32) := ⟨by decide, by decide⟩
theorem kc_128 : rg (128) (128) (128 : Int32) := ⟨by decide, by decide⟩
theorem kc_200 : rg (200) (200) (200 : Int32) := ⟨by decide, by decide⟩
theorem kc_240 : rg (240) (240) (240 : Int32) := ⟨by decide, by decide⟩
theorem kc_255 : rg (255) (255) (255 : Int32) := ⟨by decide, by decide⟩
theorem kc_600 : rg (600) (600) (600 : Int32) := ⟨by decide, by decide⟩
theorem kc_800 : rg (800) (800) (800 : Int32) := ⟨by decide, by decide⟩
theorem kc_999 : rg (999) (999) (999 : Int32) := ⟨by decide, by decide⟩
theorem kc_1000 : rg (1000) (1000) (1000 : Int32) := ⟨by decide, by decide⟩
theorem kc_16777215 : rg (16777215) (16777215) (16777215 : Int32) := ⟨by decide, by decide⟩
theorem kc_79764919 : rg (79764919) (79764919) (79764919 : Int32) := ⟨by decide, by decide⟩
theorem lj_1 {nn X : Int} {v : Int32} (r : rg (mLo nn 1) (mHi nn X 1) v) : rg (-2147483648) (2147483647) v := r
theorem rj_1 {nn X : Int} {v : Int32} (r : rg (-2147483648) (2147483647) v) : rg (mLo nn 1) (mHi nn X 1) v := r
theorem lj_2 {nn X : Int} {v : Int32} (r : rg (mLo nn 2) (mHi nn X 2) v) : rg (-2147483648) (2147483647) v := r
theorem rj_2 {nn X : Int} {v : Int32} (r : rg (-2147483648) (2147483647) v) : rg (mLo nn 2) (mHi nn X 2) v := r
theorem lj_3 {nn X : Int} {v : Int32} (r : rg (mLo nn 3) (mHi nn X 3) v) : rg (0) (200) v := r
theorem rj_3 {nn X : Int} {v : Int32} (r : rg (0) (200) v) : rg (mLo nn 3) (mHi nn X 3) v := r
theorem lj_4 {nn X : Int} {v : Int32} (r : rg (mLo nn 4) (mHi nn X 4) v) : rg (-2147483648) (2147483647) v := r
theorem rj_4 {nn X : Int} {v : Int32} (r : rg (-2147483648) (2147483647) v) : rg (mLo nn 4) (mHi nn X 4) v := r
theorem lj_5 {nn X : Int} {v : Int32} (r : rg (mLo nn 5) (mHi nn X 5) v) : rg (-2147483648) (2147483647) v := r
theorem rj_5 {nn X : Int} {v : Int32} (r : rg (-2147483648) (2147483647) v) : rg (mLo nn 5) (mHi nn X 5) v := r
theorem lj_6 {nn X : Int} {v : Int32} (r : rg (mLo nn 6) (mHi nn X 6) v) : rg (0) (39) v := r
theorem rj_6 {nn X : Int} {v : Int32} (r : rg (0) (39) v) : rg (mLo nn 6) (mHi nn X 6) v := r
theorem lj_7 {nn X : Int} {v : Int32} (r : rg (mLo nn 7) (mHi nn X 7) v) : rg (0) (40) v := r
theorem rj_7 {nn X : Int} {v : Int32} (r : rg (0) (40) v) : rg (mLo nn 7) (mHi nn X 7) v := r
theorem lj_8 {nn X : Int} {v : Int32} (r : rg (mLo nn 8) (mHi nn X 8) v) : rg (-2147483648) (2147483647) v := r
theorem rj_8 {nn X : Int} {v : Int32} (r : rg (-2147483648) (2147483647) v) : rg (mLo nn 8) (mHi nn X 8) v := r
theorem lj_9 {nn X : Int} {v : Int32} (r : rg (mLo nn 9) (mHi nn X 9) v) : rg (-2147483648) (2147483647) v := r
theorem rj_9 {nn X : Int} {v : Int32} (r : rg (-2147483648) (2147483647) v) : rg (mLo nn 9) (mHi nn X 9) v := r
theorem lj_10 {nn X : Int} {v : Int32} (r : rg (mLo nn 10) (mHi nn X 10) v) : rg (-2147483648) (2147483647) v := r
theorem rj_10 {nn X : Int} {v : Int32} (r : rg (-2147483648) (2147483647) v) : rg (mLo nn 10) (mHi nn X 10) v := r
theorem lj_11 {nn X : Int} {v : Int32} (r : rg (mLo nn 11) (mHi nn X 11) v) : rg (0) (256) v := r
theorem rj_11 {nn X : Int} {v : Int32} (r : rg (0) (256) v) : rg (mLo nn 11) (mHi nn X 11) v := r
theorem lj_12 {nn X : Int} {v : Int32} (r : rg (mLo nn 12) (mHi nn X 12) v) : rg (0) (2) v := r
theorem rj_12 {nn X : Int} {v : Int32} (r : rg (0) (2) v) : rg (mLo nn 12) (mHi nn X 12) v := r
theorem lj_13 {nn X : Int} {v : Int32} (r : rg (mLo nn 13) (mHi nn X 13) v) : rg (-2147483648) (2147483647) v := r
theorem rj_13 {nn X : Int} {v : Int32} (r : rg (-2147483648) (2147483647) v) : rg (mLo nn 13) (mHi nn X 13) v := r
theorem lj_14 {nn X : Int} {v : Int32} (r : rg (mLo nn 14) (mHi nn X 14) v) : rg (-2147483648) (2147483647) v := r
theorem rj_14 {nn X : Int} {v : Int32} (r : rg (-2147483648) (2147483647) v) : rg (mLo nn 14) (mHi nn X 14) v := r
theorem lj_15 {nn X : Int} {v : Int32} (r : rg (mLo nn 15) (mHi nn X 15) v) : rg (-2147483648) (2147483647) v := r
theorem rj_15 {nn X : Int} {v : Int32} (r : rg (-2147483648) (2147483647) v) : rg (mLo nn 15) (mHi nn X 15) v := r
theorem lj_16 {nn X : Int} {v : Int32} (r : rg (mLo nn 16) (mHi nn X 16) v) : rg (0) (8) v := r
theorem rj_16 {nn X : Int} {v : Int32} (r : rg (0) (8) v) : rg (mLo nn 16) (mHi nn X 16) v := r
theorem lj_17 {nn X : Int} {v : Int32} (r : rg (mLo nn 17) (mHi nn X 17) v) : rg (-2147483648) (2147483647) v := r
theorem rj_17 {nn X : Int} {v : Int32} (r : rg (-2147483648) (2147483647) v) : rg (mLo nn 17) (mHi nn X 17) v := r
theorem lj_18 {nn X : Int} {v : Int32} (r : rg (mLo nn 18) (mHi nn X 18) v) : rg (0) (53) v := r
theorem rj_18 {nn X : Int} {v : Int32} (r : rg (0) (53) v) : rg (mLo nn 18) (mHi nn X 18) v := r
theorem lj_19 {nn X : Int} {v : Int32} (r : rg (mLo nn 19) (mHi nn X 19) v) : rg (-2147483648) (2147483647) v := r
theorem rj_19 {nn X : Int} {v : Int32} (r : rg (-2147483648) (2147483647) v) : rg (mLo nn 19) (mHi nn X 19) v := r
theorem lj_20 {nn X : Int} {v : Int32} (r : rg (mLo nn 20) (mHi nn X 20) v) : rg (-2147483648) (2147483647) v := r
theorem rj_20 {nn X : Int} {v : Int32} (r : rg (-2147483648) (2147483647) v) : rg (mLo nn 20) (mHi nn X 20) v := r
theorem lj_21 {nn X : Int} {v : Int32} (r : rg (mLo nn 21) (mHi nn X 21) v) : rg (0) (2) v := r
theorem rj_21 {nn X : Int} {v : Int32} (r : rg (0) (2) v) : rg (mLo nn 21) (mHi nn X 21) v := r
theorem lj_22 {nn X : Int} {v : Int32} (r : rg (mLo nn 22) (mHi nn X 22) v) : rg (0) (53) v := r
theorem rj_22 {nn X : Int} {v : Int32} (r : rg (0) (53) v) : rg (mLo nn 22) (mHi nn X 22) v := r
theorem lj_23 {nn X : Int} {v : Int32} (r : rg (mLo nn 23) (mHi nn X 23) v) : rg (-2147483648) (2147483647) v := r
theorem rj_23 {nn X : Int} {v : Int32} (r : rg (-2147483648) (2147483647) v) : rg (mLo nn 23) (mHi nn X 23) v := r
theorem lj_24 {nn X : Int} {v : Int32} (r : rg (mLo nn 24) (mHi nn X 24) v) : rg (-2147483648) (2147483647) v := r
theorem rj_24 {nn X : Int} {v : Int32} (r : rg (-2147483648) (2147483647) v) : rg (mLo nn 24) (mHi nn X 24) v := r
theorem lj_25 {nn X : Int} {v : Int32} (r : rg (mLo nn 25) (mHi nn X 25) v) : rg (-2147483648) (2147483647) v := r
theorem rj_25 {nn X : Int} {v : Int32} (r : rg (-2147483648) (2147483647) v) : rg (mLo nn 25) (mHi nn X 25) v := r
theorem lj_26 {nn X : Int} {v : Int32} (r : rg (mLo nn 26) (mHi nn X 26) v) : rg (-2147483648) (2147483647) v := r
theorem rj_26 {nn X : Int} {v : Int32} (r : rg (-2147483648) (2147483647) v) : rg (mLo nn 26) (mHi nn X 26) v := r
theorem lj_27 {nn X : Int} {v : Int32} (r : rg (mLo nn 27) (mHi nn X 27) v) : rg (-2147483648) (2147483647) v := r
theorem rj_27 {nn X : Int} {v : Int32} (r : rg (-2147483648) (2147483647) v) : rg (mLo nn 27) (mHi nn X 27) v := r
theorem lj_28 {nn X : Int} {v : Int32} (r : rg (mLo nn 28) (mHi nn X 28) v) : rg (-2147483648) (2147483647) v := r
theorem rj_28 {nn X : Int} {v : Int32} (r : rg (-2147483648) (2147483647) v) : rg (mLo nn 28) (mHi nn X 28) v := r
theorem lj_29 {nn X : Int} {v : Int32} (r : rg (mLo nn 29) (mHi nn X 29) v) : rg (-2147483648) (2147483647) v := r
theorem rj_29 {nn X : Int} {v : Int32} (r : rg (-2147483648) (2147483647) v) : rg (mLo nn 29) (mHi nn X 29) v := r
theorem lj_30 {nn X : Int} {v : Int32} (r : rg (mLo nn 30) (mHi nn X 30) v) : rg (-2147483648) (2147483647) v := r
theorem rj_30 {nn X : Int} {v : Int32} (r : rg (-2147483648) (2147483647) v) : rg (mLo nn 30) (mHi nn X 30) v := r
theorem lj_31 {nn X : Int} {v : Int32} (r : rg (mLo nn 31) (mHi nn X 31) v) : rg (-2147483648) (2147483647) v := r
theorem rj_31 {nn X : Int} {v : Int32} (r : rg (-2147483648) (2147483647) v) : rg (mLo nn 31) (mHi nn X 31) v := r
theorem lj_32 {nn X : Int} {v : Int32} (r : rg (mLo nn 32) (mHi nn X 32) v) : rg (0) (5) v := r
theorem rj_32 {nn X : Int} {v : Int32} (r : rg (0) (5) v) : rg (mLo nn 32) (mHi nn X 32) v := r
theorem lj_33 {nn X : Int} {v : Int32} (r : rg (mLo nn 33) (mHi nn X 33) v) : rg (-2147483648) (2147483647) v := r
theorem rj_33 {nn X : Int} {v : Int32} (r : rg (-2147483648) (2147483647) v) : rg (mLo nn 33) (mHi nn X 33) v := r
theorem lj_34 {nn X : Int} {v : Int32} (r : rg (mLo nn 34) (mHi nn X 34) v) : rg (0) (200) v := r
theorem rj_34 {nn X : Int} {v : Int32} (r : rg (0) (200) v) : rg (mLo nn 34) (mHi nn X 34) v := r
theorem lj_35 {nn X : Int} {v : Int32} (r : rg (mLo nn 35) (mHi nn X 35) v) : rg (-2147483648) (2147483647) v := r
theorem rj_35 {nn X : Int} {v : Int32} (r : rg (-2147483648) (2147483647) v) : rg (mLo nn 35) (mHi nn X 35) v := r
theorem lj_36 {nn X : Int} {v : Int32} (r : rg (mLo nn 36) (mHi nn X 36) v) : rg (0) (200) v := r
theorem rj_36 {nn X : Int} {v : Int32} (r : rg (0) (200) v) : rg (mLo nn 36) (mHi nn X 36) v := r
theorem lj_37 {nn X : Int} {v : Int32} (r : rg (mLo nn 37) (mHi nn X 37) v) : rg (-2147483648) (2147483647) v := r
theorem rj_37 {nn X : Int} {v : Int32} (r : rg (-2147483648) (2147483647) v) : rg (mLo nn 37) (mHi nn X 37) v := r
theorem lj_38 {nn X : Int} {v : Int32} (r : rg (mLo nn 38) (mHi nn X 38) v) : rg (-2147483648) (2147483647) v := r
theorem rj_38 {nn X : Int} {v : Int32} (r : rg (-2147483648) (2147483647) v) : rg (mLo nn 38) (mHi nn X 38) v := r
theorem lj_39 {nn X : Int} {v : Int32} (r : rg (mLo nn 39) (mHi nn X 39) v) : rg 0 X v := r
theorem rj_39 {nn X : Int} {v : Int32} (r : rg 0 X v) : rg (mLo nn 39) (mHi nn X 39) v := r
theorem rj_39z {nn X : Int} {v : Int32} (r : rg 0 0 v) (h : 0 ≤ X ∧ X ≤ 2000000000) : rg (mLo nn 39) (mHi nn X 39) v := ⟨r.1, Int.le_trans r.2 h.1⟩
theorem lj_40 {nn X : Int} {v : Int32} (r : rg (mLo nn 40) (mHi nn X 40) v) : rg (-2147483648) (2147483647) v := r
theorem rj_40 {nn X : Int} {v : Int32} (r : rg (-2147483648) (2147483647) v) : rg (mLo nn 40) (mHi nn X 40) v := r
theorem lj_41 {nn X : Int} {v : Int32} (r : rg (mLo nn 41) (mHi nn X 41) v) : rg (0) (2147483647) v := r
theorem rj_41 {nn X : Int} {v : Int32} (r : rg (0) (2147483647) v) : rg (mLo nn 41) (mHi nn X 41) v := r
theorem lj_42 {nn X : Int} {v : Int32} (r : rg (mLo nn 42) (mHi nn X 42) v) : rg (0) (2147483647) v := r
theorem rj_42 {nn X : Int} {v : Int32} (r : rg (0) (2147483647) v) : rg (mLo nn 42) (mHi nn X 42) v := r
theorem lj_43 {nn X : Int} {v : Int32} (r : rg (mLo nn 43) (mHi nn X 43) v) : rg (-2147483648) (2147483647) v := r
theorem rj_43 {nn X : Int} {v : Int32} (r : rg (-2147483648) (2147483647) v) : rg (mLo nn 43) (mHi nn X 43) v := r
theorem lj_44 {nn X : Int} {v : Int32} (r : rg (mLo nn 44) (mHi nn X 44) v) : rg (-2147483648) (2147483647) v := r
theorem rj_44 {nn X : Int} {v : Int32} (r : rg (-2147483648) (2147483647) v) : rg (mLo nn 44) (mHi nn X 44) v := r
theorem lj_45 {nn X : Int} {v : Int32} (r : rg (mLo nn 45) (mHi nn X 45) v) : rg (-2147483648) (2147483647) v := r
theorem rj_45 {nn X : Int} {v : Int32} (r : rg (-2147483648) (2147483647) v) : rg (mLo nn 45) (mHi nn X 45) v := r
theorem lj_46 {nn X : Int} {v : Int32} (r : rg (mLo nn 46) (mHi nn X 46) v) : rg (0) (16777224) v := r
theorem rj_46 {nn X : Int} {v : Int32} (r : rg (0) (16777224) v) : rg (mLo nn 46) (mHi nn X 46) v := r
theorem lj_47 {nn X : Int} {v : Int32} (r : rg (mLo nn 47) (mHi nn X 47) v) : rg (-2147483648) (2147483647) v := r
theorem rj_47 {nn X : Int} {v : Int32} (r : rg (-2147483648) (2147483647) v) : rg (mLo nn 47) (mHi nn X 47) v := r
theorem lj_48 {nn X : Int} {v : Int32} (r : rg (mLo nn 48) (mHi nn X 48) v) : rg (-2147483648) (2147483647) v := r
theorem rj_48 {nn X : Int} {v : Int32} (r : rg (-2147483648) (2147483647) v) : rg (mLo nn 48) (mHi nn X 48) v := r
theorem lj_49 {nn X : Int} {v : Int32} (r : rg (mLo nn 49) (mHi nn X 49) v) : rg (-2147483648) (2147483647) v := r
theorem rj_49 {nn X : Int} {v : Int32} (r : rg (-2147483648) (2147483647) v) : rg (mLo nn 49) (mHi nn X 49) v := r
theorem lj_50 {nn X : Int} {v : Int32} (r : rg (mLo nn 50) (mHi nn X 50) v) : rg (-2147483648) (2147483647) v := r
theorem rj_50 {nn X : Int} {v : Int32} (r : rg (-2147483648) (2147483647) v) : rg (mLo nn 50) (mHi nn X 50) v := r
theorem lj_51 {nn X : Int} {v : Int32} (r : rg (mLo nn 51) (mHi nn X 51) v) : rg (-2147483648) (2147483647) v := r
theorem rj_51 {nn X : Int} {v : Int32} (r : rg (-2147483648) (2147483647) v) : rg (mLo nn 51) (mHi nn X 51) v := r
theorem lj_52 {nn X : Int} {v : Int32} (r : rg (mLo nn 52) (mHi nn X 52) v) : rg (-2147483648) (2147483647) v := r
theorem rj_52 {nn X : Int} {v : Int32} (r : rg (-2147483648) (2147483647) v) : rg (mLo nn 52) (mHi nn X 52) v := r
theorem lj_53 {nn X : Int} {v : Int32} (r : rg (mLo nn 53) (mHi nn X 53) v) : rg (-2147483648) (2147483647) v := r
theorem rj_53 {nn X : Int} {v : Int32} (r : rg (-2147483648) (2147483647) v) : rg (mLo nn 53) (mHi nn X 53) v := r
theorem lj_54 {nn X : Int} {v : Int32} (r : rg (mLo nn 54) (mHi nn X 54) v) : rg (0) (1) v := r
theorem rj_54 {nn X : Int} {v : Int32} (r : rg (0) (1) v) : rg (mLo nn 54) (mHi nn X 54) v := r
theorem lj_55 {nn X : Int} {v : Int32} (r : rg (mLo nn 55) (mHi nn X 55) v) : rg (-2147483648) (2147483647) v := r
theorem rj_55 {nn X : Int} {v : Int32} (r : rg (-2147483648) (2147483647) v) : rg (mLo nn 55) (mHi nn X 55) v := r
theorem lj_56 {nn X : Int} {v : Int32} (r : rg (mLo nn 56) (mHi nn X 56) v) : rg (-2147483648) (2147483647) v := r
theorem rj_56 {nn X : Int} {v : Int32} (r : rg (-2147483648) (2147483647) v) : rg (mLo nn 56) (mHi nn X 56) v := r
theorem lj_57 {nn X : Int} {v : Int32} (r : rg (mLo nn 57) (mHi nn X 57) v) : rg (-2147483648) (2147483647) v := r
theorem rj_57 {nn X : Int} {v : Int32} (r : rg (-2147483648) (2147483647) v) : rg (mLo nn 57) (mHi nn X 57) v := r
theorem lj_58 {nn X : Int} {v : Int32} (r : rg (mLo nn 58) (mHi nn X 58) v) : rg (-2147483648) (2147483647) v := r
theorem rj_58 {nn X : Int} {v : Int32} (r : rg (-2147483648) (2147483647) v) : rg (mLo nn 58) (mHi nn X 58) v := r
theorem lj_59 {nn X : Int} {v : Int32} (r : rg (mLo nn 59) (mHi nn X 59) v) : rg (0) (60) v := r
theorem rj_59 {nn X : Int} {v : Int32} (r : rg (0) (60) v) : rg (mLo nn 59) (mHi nn X 59) v := r
theorem lj_60 {nn X : Int} {v : Int32} (r : rg (mLo nn 60) (mHi nn X 60) v) : rg (0) (10) v := r
theorem rj_60 {nn X : Int} {v : Int32} (r : rg (0) (10) v) : rg (mLo nn 60) (mHi nn X 60) v := r
theorem lj_61 {nn X : Int} {v : Int32} (r : rg (mLo nn 61) (mHi nn X 61) v) : rg (-2147483648) (2147483647) v := r
theorem rj_61 {nn X : Int} {v : Int32} (r : rg (-2147483648) (2147483647) v) : rg (mLo nn 61) (mHi nn X 61) v := r
theorem lj_62 {nn X : Int} {v : Int32} (r : rg (mLo nn 62) (mHi nn X 62) v) : rg (0) (60) v := r
theorem rj_62 {nn X : Int} {v : Int32} (r : rg (0) (60) v) : rg (mLo nn 62) (mHi nn X 62) v := r
theorem lj_63 {nn X : Int} {v : Int32} (r : rg (mLo nn 63) (mHi nn X 63) v) : rg (-2147483648) (2147483647) v := r
theorem rj_63 {nn X : Int} {v : Int32} (r : rg (-2147483648) (2147483647) v) : rg (mLo nn 63) (mHi nn X 63) v := r
theorem lj_64 {nn X : Int} {v : Int32} (r : rg (mLo nn 64) (mHi nn X 64) v) : rg (0) (1) v := r
theorem rj_64 {nn X : Int} {v : Int32} (r : rg (0) (1) v) : rg (mLo nn 64) (mHi nn X 64) v := r
theorem lj_65 {nn X : Int} {v : Int32} (r : rg (mLo nn 65) (mHi nn X 65) v) : rg (-2147483648) (2147483647) v := r
theorem rj_65 {nn X : Int} {v : Int32} (r : rg (-2147483648) (2147483647) v) : rg (mLo nn 65) (mHi nn X 65) v := r
theorem lj_66 {nn X : Int} {v : Int32} (r : rg (mLo nn 66) (mHi nn X 66) v) : rg (0) (60) v := r
theorem rj_66 {nn X : Int} {v : Int32} (r : rg (0) (60) v) : rg (mLo nn 66) (mHi nn X 66) v := r
theorem lj_67 {nn X : Int} {v : Int32} (r : rg (mLo nn 67) (mHi nn X 67) v) : rg (0) (1) v := r
theorem rj_67 {nn X : Int} {v : Int32} (r : rg (0) (1) v) : rg (mLo nn 67) (mHi nn X 67) v := r
theorem lj_68 {nn X : Int} {v : Int32} (r : rg (mLo nn 68) (mHi nn X 68) v) : rg (0) (11) v := r
theorem rj_68 {nn X : Int} {v : Int32} (r : rg (0) (11) v) : rg (mLo nn 68) (mHi nn X 68) v := r
theorem lj_69 {nn X : Int} {v : Int32} (r : rg (mLo nn 69) (mHi nn X 69) v) : rg (-2147483648) (2147483647) v := r
theorem rj_69 {nn X : Int} {v : Int32} (r : rg (-2147483648) (2147483647) v) : rg (mLo nn 69) (mHi nn X 69) v := r
theorem lj_70 {nn X : Int} {v : Int32} (r : rg (mLo nn 70) (mHi nn X 70) v) : rg (0) (1) v := r
theorem rj_70 {nn X : Int} {v : Int32} (r : rg (0) (1) v) : rg (mLo nn 70) (mHi nn X 70) v := r
theorem lj_71 {nn X : Int} {v : Int32} (r : rg (mLo nn 71) (mHi nn X 71) v) : rg (-2147483648) (2147483647) v := r
theorem rj_71 {nn X : Int} {v : Int32} (r : rg (-2147483648) (2147483647) v) : rg (mLo nn 71) (mHi nn X 71) v := r
theorem lj_72 {nn X : Int} {v : Int32} (r : rg (mLo nn 72) (mHi nn X 72) v) : rg (-2147483648) (2147483647) v := r
theorem rj_72 {nn X : Int} {v : Int32} (r : rg (-2147483648) (2147483647) v) : rg (mLo nn 72) (mHi nn X 72) v := r
theorem lj_73 {nn X : Int} {v : Int32} (r : rg (mLo nn 73) (mHi nn X 73) v) : rg (-2147483648) (2147483647) v := r
theorem rj_73 {nn X : Int} {v : Int32} (r : rg (-2147483648) (2147483647) v) : rg (mLo nn 73) (mHi nn X 73) v := r
theorem lj_74 {nn X : Int} {v : Int32} (r : rg (mLo nn 74) (mHi nn X 74) v) : rg (-2147483648) (2147483647) v := r
theorem rj_74 {nn X : Int} {v : Int32} (r : rg (-2147483648) (2147483647) v) : rg (mLo nn 74) (mHi nn X 74) v := r
theorem lj_75 {nn X : Int} {v : Int32} (r : rg (mLo nn 75) (mHi nn X 75) v) : rg (-2147483648) (2147483647) v := r
theorem rj_75 {nn X : Int} {v : Int32} (r : rg (-2147483648) (2147483647) v) : rg (mLo nn 75) (mHi nn X 75) v := r
theorem lj_76 {nn X : Int} {v : Int32} (r : rg (mLo nn 76) (mHi nn X 76) v) : rg (0) (1) v := r
theorem rj_76 {nn X : Int} {v : Int32} (r : rg (0) (1) v) : rg (mLo nn 76) (mHi nn X 76) v := r
theorem rj_77 {nn X : Int} {v : Int32} (r : rg (-2) 159 v) (h : 2 ≤ nn ∧ nn ≤ 4) : rg (mLo nn 77) (mHi nn X 77) v := ⟨r.1, Int.le_trans r.2 (show (159 : Int) ≤ 80 * nn - 1 by omega)⟩
theorem lj_78 {nn X : Int} {v : Int32} (r : rg (mLo nn 78) (mHi nn X 78) v) : rg (-2147483648) (2147483647) v := r
theorem rj_78 {nn X : Int} {v : Int32} (r : rg (-2147483648) (2147483647) v) : rg (mLo nn 78) (mHi nn X 78) v := r
theorem lj_79 {nn X : Int} {v : Int32} (r : rg (mLo nn 79) (mHi nn X 79) v) : rg (-2147483648) (2147483647) v := r
theorem rj_79 {nn X : Int} {v : Int32} (r : rg (-2147483648) (2147483647) v) : rg (mLo nn 79) (mHi nn X 79) v := r
theorem lj_80 {nn X : Int} {v : Int32} (r : rg (mLo nn 80) (mHi nn X 80) v) : rg (0) (40) v := r
theorem rj_80 {nn X : Int} {v : Int32} (r : rg (0) (40) v) : rg (mLo nn 80) (mHi nn X 80) v := r
theorem lj_81 {nn X : Int} {v : Int32} (r : rg (mLo nn 81) (mHi nn X 81) v) : rg (-2147483648) (2147483647) v := r
theorem rj_81 {nn X : Int} {v : Int32} (r : rg (-2147483648) (2147483647) v) : rg (mLo nn 81) (mHi nn X 81) v := r
theorem lj_82 {nn X : Int} {v : Int32} (r : rg (mLo nn 82) (mHi nn X 82) v) : rg (-2147483648) (2147483647) v := r
theorem rj_82 {nn X : Int} {v : Int32} (r : rg (-2147483648) (2147483647) v) : rg (mLo nn 82) (mHi nn X 82) v := r
theorem lj_83 {nn X : Int} {v : Int32} (r : rg (mLo nn 83) (mHi nn X 83) v) : rg (-2147483648) (2147483647) v := r
theorem rj_83 {nn X : Int} {v : Int32} (r : rg (-2147483648) (2147483647) v) : rg (mLo nn 83) (mHi nn X 83) v := r
theorem lj_84 {nn X : Int} {v : Int32} (r : rg (mLo nn 84) (mHi nn X 84) v) : rg (-2147483648) (2147483647) v := r
theorem rj_84 {nn X : Int} {v : Int32} (r : rg (-2147483648) (2147483647) v) : rg (mLo nn 84) (mHi nn X 84) v := r
theorem lj_85 {nn X : Int} {v : Int32} (r : rg (mLo nn 85) (mHi nn X 85) v) : rg (0) (200) v := r
theorem rj_85 {nn X : Int} {v : Int32} (r : rg (0) (200) v) : rg (mLo nn 85) (mHi nn X 85) v := r
theorem lj_86 {nn X : Int} {v : Int32} (r : rg (mLo nn 86) (mHi nn X 86) v) : rg (0) (4) v := r
theorem rj_86 {nn X : Int} {v : Int32} (r : rg (0) (4) v) : rg (mLo nn 86) (mHi nn X 86) v := r
theorem lj_87 {nn X : Int} {v : Int32} (r : rg (mLo nn 87) (mHi nn X 87) v) : rg (0) (5) v := r
theorem rj_87 {nn X : Int} {v : Int32} (r : rg (0) (5) v) : rg (mLo nn 87) (mHi nn X 87) v := r
theorem lj_88 {nn X : Int} {v : Int32} (r : rg (mLo nn 88) (mHi nn X 88) v) : rg (-2147483648) (2147483647) v := r
theorem rj_88 {nn X : Int} {v : Int32} (r : rg (-2147483648) (2147483647) v) : rg (mLo nn 88) (mHi nn X 88) v := r
theorem lj_89 {nn X : Int} {v : Int32} (r : rg (mLo nn 89) (mHi nn X 89) v) : rg (0) (5) v := r
theorem rj_89 {nn X : Int} {v : Int32} (r : rg (0) (5) v) : rg (mLo nn 89) (mHi nn X 89) v := r
theorem lj_90 {nn X : Int} {v : Int32} (r : rg (mLo nn 90) (mHi nn X 90) v) : rg (-2147483648) (2147483647) v := r
theorem rj_90 {nn X : Int} {v : Int32} (r : rg (-2147483648) (2147483647) v) : rg (mLo nn 90) (mHi nn X 90) v := r
theorem lj_91 {nn X : Int} {v : Int32} (r : rg (mLo nn 91) (mHi nn X 91) v) : rg (0) (60) v := r
theorem rj_91 {nn X : Int} {v : Int32} (r : rg (0) (60) v) : rg (mLo nn 91) (mHi nn X 91) v := r
theorem fi_1 : (TX12 1).1 = RX12 ∧ (TX12 1).2.2.2 = false ∧ parseFieldDescriptor (TX12 1).2.2.1 = some .int := by decide +kernel
theorem fi_3 : (TX12 3).1 = RX12 ∧ (TX12 3).2.2.2 = false ∧ parseFieldDescriptor (TX12 3).2.2.1 = some .int := by decide +kernel
theorem fi_4 : (TX12 4).1 = RX12 ∧ (TX12 4).2.2.2 = false ∧ parseFieldDescriptor (TX12 4).2.2.1 = some .int := by decide +kernel
theorem fi_11 : (TX12 11).1 = RX12 ∧ (TX12 11).2.2.2 = false ∧ parseFieldDescriptor (TX12 11).2.2.1 = some .int := by decide +kernel
theorem fi_19 : (TX12 19).1 = RX12 ∧ (TX12 19).2.2.2 = false ∧ parseFieldDescriptor (TX12 19).2.2.1 = some .int := by decide +kernel
theorem fi_20 : (TX12 20).1 = RX12 ∧ (TX12 20).2.2.2 = false ∧ parseFieldDescriptor (TX12 20).2.2.1 = some .int := by decide +kernel
theorem fi_34 : (TX12 34).1 = RX12 ∧ (TX12 34).2.2.2 = false ∧ parseFieldDescriptor (TX12 34).2.2.1 = some .int := by decide +kernel
theorem fi_79 : (TX12 79).1 = RX12 ∧ (TX12 79).2.2.2 = false ∧ parseFieldDescriptor (TX12 79).2.2.1 = some .int := by decide +kernel
theorem fi_91 : (TX12 91).1 = RX12 ∧ (TX12 91).2.2.2 = false ∧ parseFieldDescriptor (TX12 91).2.2.1 = some .int := by decide +kernel
theorem mm_up {g1 g2 : mSt} {j k j' i' : Nat} {v x : Int32} (e : v = g1 j k) (eg : g2 = up2 g1 j' i' x) (h : decide (j ≠ j') = true) : v = g2 j k := by rw [eg, up2_o (of_decide_eq_true h)]; exact e
theorem mm_fr {M : List Nat} {g1 g2 : mSt} {j k : Nat} {v : Int32} (e : v = g1 j k) (hF : mFr M g1 g2) (h : M.elem j = false) : v = g2 j k := by rw [hF.at j h]; exact e
theorem mm_un {g1 g2 : mSt} {j k i' : Nat} {v x : Int32} (e : v = g1 j k) (eg : g2 = up2 g1 j i' x) (h : k ≠ i') : v = g2 j k := by rw [eg, up2_n h]; exact e
theorem mm_st {g1 g2 : mSt} {j k : Nat} {x : Int32} (eg : g2 = up2 g1 j k x) : x = g2 j k := by rw [eg, up2_i]
theorem mFr.upE {M : List Nat} {g g1 g2 : mSt} {j i : Nat} {v : Int32} (h : mFr M g g1) (e : g2 = up2 g1 j i v) (hj : M.elem j = true) : mFr M g g2 := by rw [e]; exact h.up hj
theorem inc_ex (x : Int32) (n : Int) (k : Int32) (h : Int32.ofInt n = k) : ∃ y : Int32, y = x + k ∧ x + Int32.ofInt n = y := ⟨_, rfl, by rw [h]⟩
theorem ms_up {k k' c : Int32} {n a b C : Int} (e : k'.toInt = k.toInt + c.toInt) (rc : rg n n c) (r : rg a b k) (hn : decide (0 < n) = true) (hb : decide (b < C) = true) : (C - k'.toInt).toNat < (C - k.toInt).toNat := by
  have hn := of_decide_eq_true hn
  have hb := of_decide_eq_true hb
  have rc : n ≤ c.toInt ∧ c.toInt ≤ n := rc
  have r : a ≤ k.toInt ∧ k.toInt ≤ b := r
  omega
theorem ms_dn {k k' c : Int32} {n a b C : Int} (e : k'.toInt = k.toInt + c.toInt) (rc : rg n n c) (r : rg a b k) (hn : decide (n < 0) = true) (hb : decide (C < a) = true) : (k'.toInt - C).toNat < (k.toInt - C).toNat := by
  have hn := of_decide_eq_true hn
  have hb := of_decide_eq_true hb
  have rc : n ≤ c.toInt ∧ c.toInt ≤ n := rc
  have r : a ≤ k.toInt ∧ k.toInt ≤ b := r
  omega
theorem rg_nn {nn X : Int} {v : Int32} (h : 2 ≤ nn ∧ nn ≤ 4) (r : rg (mLo nn 0) (mHi nn X 0) v) : rg 2 4 v := by
  have r : nn ≤ v.toInt ∧ v.toInt ≤ nn := r
  exact ⟨by omega, by omega⟩
theorem rg_n0 {nn X : Int} {v : Int32} (r : rg (mLo nn 0) (mHi nn X 0) v) : v.toInt = nn := by
  have r : nn ≤ v.toInt ∧ v.toInt ≤ nn := r
  omega
theorem rg_X {X : Int} {v : Int32} (h : 0 ≤ X ∧ X ≤ 2000000000) (r : rg 0 X v) : rg 0 2000000000 v := ⟨r.1, Int.le_trans r.2 h.2⟩
theorem rg_pair {nn X : Int} {v : Int32} (h : 2 ≤ nn ∧ nn ≤ 4) (r : rg (mLo nn 77) (mHi nn X 77) v) : rg (-2) 319 v := by
  have r : (-2 : Int) ≤ v.toInt ∧ v.toInt ≤ 80 * nn - 1 := r
  exact ⟨r.1, by omega⟩
theorem rg_p80 {nn X : Int} {v : Int32} (r : rg (mLo nn 77) (mHi nn X 77) v) : v.toInt < 80 * nn := by
  have r : (-2 : Int) ≤ v.toInt ∧ v.toInt ≤ 80 * nn - 1 := r
  omega
theorem nb_of {nn a b k : Int} {v : Int32} (r : rg a b v) (h : (decide (0 ≤ k) && decide (b < 2 * k)) = true) (hnn : 2 ≤ nn ∧ nn ≤ 4) : v.toInt < k * nn := by
  rw [Bool.and_eq_true] at h
  have h1 := of_decide_eq_true h.1
  have h2 := of_decide_eq_true h.2
  have q : k * 2 ≤ k * nn := Int.mul_le_mul_of_nonneg_left hnn.1 h1
  have r2 := r.2
  omega
theorem nb_12 {nn : Int} {v : Int32} (r : v.toInt < 1 * nn) (hnn : 2 ≤ nn ∧ nn ≤ 4) : v.toInt < 2 * nn := by omega
theorem rg_eqv {a b : Int} {v w : Int32} (e : v = w) (r : rg a b v) : rg a b w := e ▸ r
theorem rg_rel {a b c1 c2 lo hi : Int} {v w x y : Int32} (e : v = x) (ew : w = y) (r : rg a b v) (h : x.toInt + c1 ≤ y.toInt ∧ y.toInt ≤ x.toInt + c2) (hd : (decide (lo = a + c1) && decide (hi = b + c2)) = true) : rg lo hi w := by
  rw [Bool.and_eq_true] at hd
  have h1 := of_decide_eq_true hd.1
  have h2 := of_decide_eq_true hd.2
  subst e; subst ew
  have r : a ≤ v.toInt ∧ v.toInt ≤ b := r
  exact ⟨by omega, by omega⟩
theorem rel_of {x y : Int32} {lo hi : Int} (e : x = y) (h : lo ≤ x.toInt ∧ x.toInt ≤ hi) : lo ≤ y.toInt ∧ y.toInt ≤ hi := e ▸ h
theorem wm_S {c d : Cond} {index : Nat} {y : MethodName} {ws : List Cond} (h1 : Cond.static y ∈ wsU12) (h2 : Cond.methodLink RX12 index y ∈ wsU12) (h3 : Cond.initialized y.cls ∈ wsU12) (hd : d ∈ wsU12) (hw : ws = [d]) : GoodIn (wm c) (va_wsS RX12 index y ws) := by
  subst hw
  intro w hw
  have hw2 : w ∈ wsU12 := by
    simp only [va_wsS, List.mem_append, List.mem_cons, List.not_mem_nil, or_false] at hw
    rcases hw with (e | e | e) | e <;> rw [e] <;> assumption
  exact ⟨wm_in hw2, good_of_word (wsU12_good w hw2)⟩
section MZ
variable {p : Program} {l : Launch} {e : Env} {R : Room} {s : State} {m : MethodId} {args : Array Value} {below : List Frame} {meth : Method} {c : Code} {H : Heap} {locs : List Loc} {cc : ByteArray} {pc : Nat} {ls : Array Slot} {G : mG} {h0 : Nat} {ad : Nat → Nat} {g : mSt} {Ts : List Cond} {nn X : Int}
theorem m_zret {Y : Int} {v : Int32} {post : Int32 → mSt → Prop} (x : mX p c cc s args Ts m G h0 ad) (L : mL G h0 ad s.heap nn X g H locs) (hr : meth.sig.returnType = some .boolean) (hlocks : meth.locks = false) (hz : vp_nar .boolean v = v) (hXY : X ≤ Y) (hp : post v g) (hdg : decode cc pc = .ok (.ireturn, 1)) : W p l e R s m args below meth c H locs 0 0 (MQ below (mQi G h0 ad nn Y post) args s 0 0 (mA h0 ad)) (F0 m pc ls [.int v]) := by
  obtain ⟨hx, hb, -⟩ := x
  have h3 : narrow .boolean (.int v) = .int v := by
    have h4 : narrow .boolean (.int v) = .int (vp_nar .boolean v) := rfl
    rw [h4, hz]
  exact W.zret hx hb hr h3 (fun t ht _ => ⟨⟨v, g, rfl, hp, by rw [← ht] at L; exact ⟨L.1, L.2.2.mono hXY⟩⟩, L.2.1.F ht⟩) L.2.1.2.2 hdg
end MZ
