def lf_0 (L : Nat) (xs : Nat → Int32) (rec : sm_M → sm_O → Int32 → Option Int32) (M : sm_M) (o : sm_O) (w4 : Int32) : Option Int32 :=
sm_gd (w4 + (1 : Int32)) L (
sm_gd (w4 + (2 : Int32)) L (
sm_gd (w4 + (3 : Int32)) L (
sm_gd (w4 + (4 : Int32)) L (
sm_gd (w4 + (5 : Int32)) L (
sm_b3 (f_Law_put M o (xs (Int32.toNatClampNeg (w4 + (1 : Int32)))) (xs (Int32.toNatClampNeg (w4 + (2 : Int32)))) (xs (Int32.toNatClampNeg (w4 + (3 : Int32)))) (xs (Int32.toNatClampNeg (w4 + (4 : Int32)))) (xs (Int32.toNatClampNeg (w4 + (5 : Int32))))) fun r156_11 M156_12 o156_13 =>
sm_gd (w4 + (1 : Int32)) L (
sm_gd (w4 + (2 : Int32)) L (
sm_gd (w4 + (3 : Int32)) L (
sm_gd (w4 + (4 : Int32)) L (
sm_gd (w4 + (5 : Int32)) L (
sm_b2 (f_Model_put M156_12 (xs (Int32.toNatClampNeg (w4 + (1 : Int32)))) (xs (Int32.toNatClampNeg (w4 + (2 : Int32)))) (xs (Int32.toNatClampNeg (w4 + (3 : Int32)))) (xs (Int32.toNatClampNeg (w4 + (4 : Int32)))) (xs (Int32.toNatClampNeg (w4 + (5 : Int32))))) fun r192_20 M192_21 =>
sm_b1 (f_Model_thrown M192_21) fun r198_24 =>
(if r198_24 = r156_11 then
(if r156_11 = 0 then
(if (lg_cmp (o156_13 0) (Int32.toInt64 r192_20)) = 0 then
rec M192_21 o156_13 (w4 + (7 : Int32))
else
(some (0 : Int32)))
else
rec M192_21 o156_13 (w4 + (7 : Int32)))
else
(some (0 : Int32)))))))))))))
def lf_1 (L : Nat) (xs : Nat → Int32) (rec : sm_M → sm_O → Int32 → Option Int32) (M : sm_M) (o : sm_O) (w4 : Int32) : Option Int32 :=
sm_gd (w4 + (1 : Int32)) L (
sm_gd (w4 + (2 : Int32)) L (
sm_b3 (f_Law_word M o (xs (Int32.toNatClampNeg (w4 + (1 : Int32)))) (xs (Int32.toNatClampNeg (w4 + (2 : Int32))))) fun r242_34 M242_35 o242_36 =>
sm_gd (w4 + (1 : Int32)) L (
sm_gd (w4 + (2 : Int32)) L (
sm_b2 (f_Model_word M242_35 (xs (Int32.toNatClampNeg (w4 + (1 : Int32)))) (xs (Int32.toNatClampNeg (w4 + (2 : Int32))))) fun r260_40 M260_41 =>
sm_b1 (f_Model_thrown M260_41) fun r266_44 =>
(if r266_44 = r242_34 then
(if r242_34 = 0 then
(if (lg_cmp (o242_36 0) (Int32.toInt64 r260_40)) = 0 then
rec M260_41 o242_36 (w4 + (7 : Int32))
else
(some (0 : Int32)))
else
rec M260_41 o242_36 (w4 + (7 : Int32)))
else
(some (0 : Int32)))))))
def lf_2 (L : Nat) (xs : Nat → Int32) (rec : sm_M → sm_O → Int32 → Option Int32) (M : sm_M) (o : sm_O) (w4 : Int32) : Option Int32 :=
sm_gd (w4 + (1 : Int32)) L (
sm_gd (w4 + (2 : Int32)) L (
sm_gd (w4 + (3 : Int32)) L (
sm_gd (w4 + (4 : Int32)) L (
sm_gd (w4 + (5 : Int32)) L (
(if (xs (Int32.toNatClampNeg (w4 + (5 : Int32)))) = 0 then
sm_b3 (f_Law_define M o (xs (Int32.toNatClampNeg (w4 + (1 : Int32)))) (xs (Int32.toNatClampNeg (w4 + (2 : Int32)))) (xs (Int32.toNatClampNeg (w4 + (3 : Int32)))) (xs (Int32.toNatClampNeg (w4 + (4 : Int32)))) (0 : Int32)) fun r336_58 M336_59 o336_60 =>
sm_gd (w4 + (1 : Int32)) L (
sm_gd (w4 + (2 : Int32)) L (
sm_gd (w4 + (3 : Int32)) L (
sm_gd (w4 + (4 : Int32)) L (
sm_gd (w4 + (5 : Int32)) L (
(if (xs (Int32.toNatClampNeg (w4 + (5 : Int32)))) = 0 then
sm_b2 (f_Model_define M336_59 (xs (Int32.toNatClampNeg (w4 + (1 : Int32)))) (xs (Int32.toNatClampNeg (w4 + (2 : Int32)))) (xs (Int32.toNatClampNeg (w4 + (3 : Int32)))) (xs (Int32.toNatClampNeg (w4 + (4 : Int32)))) (0 : Int32)) fun r380_68 M380_69 =>
sm_b1 (f_Model_thrown M380_69) fun r386_72 =>
(if r386_72 = r336_58 then
(if r336_58 = 0 then
(if (lg_cmp (o336_60 0) (Int32.toInt64 r380_68)) = 0 then
rec M380_69 o336_60 (w4 + (7 : Int32))
else
(some (0 : Int32)))
else
rec M380_69 o336_60 (w4 + (7 : Int32)))
else
(some (0 : Int32)))
else
sm_b2 (f_Model_define M336_59 (xs (Int32.toNatClampNeg (w4 + (1 : Int32)))) (xs (Int32.toNatClampNeg (w4 + (2 : Int32)))) (xs (Int32.toNatClampNeg (w4 + (3 : Int32)))) (xs (Int32.toNatClampNeg (w4 + (4 : Int32)))) (1 : Int32)) fun r380_79 M380_80 =>
sm_b1 (f_Model_thrown M380_80) fun r386_83 =>
(if r386_83 = r336_58 then
(if r336_58 = 0 then
(if (lg_cmp (o336_60 0) (Int32.toInt64 r380_79)) = 0 then
rec M380_80 o336_60 (w4 + (7 : Int32))
else
(some (0 : Int32)))
else
rec M380_80 o336_60 (w4 + (7 : Int32)))
else
(some (0 : Int32)))))))))
else
sm_b3 (f_Law_define M o (xs (Int32.toNatClampNeg (w4 + (1 : Int32)))) (xs (Int32.toNatClampNeg (w4 + (2 : Int32)))) (xs (Int32.toNatClampNeg (w4 + (3 : Int32)))) (xs (Int32.toNatClampNeg (w4 + (4 : Int32)))) (1 : Int32)) fun r336_90 M336_91 o336_92 =>
sm_gd (w4 + (1 : Int32)) L (
sm_gd (w4 + (2 : Int32)) L (
sm_gd (w4 + (3 : Int32)) L (
sm_gd (w4 + (4 : Int32)) L (
sm_gd (w4 + (5 : Int32)) L (
(if (xs (Int32.toNatClampNeg (w4 + (5 : Int32)))) = 0 then
sm_b2 (f_Model_define M336_91 (xs (Int32.toNatClampNeg (w4 + (1 : Int32)))) (xs (Int32.toNatClampNeg (w4 + (2 : Int32)))) (xs (Int32.toNatClampNeg (w4 + (3 : Int32)))) (xs (Int32.toNatClampNeg (w4 + (4 : Int32)))) (0 : Int32)) fun r380_100 M380_101 =>
sm_b1 (f_Model_thrown M380_101) fun r386_104 =>
(if r386_104 = r336_90 then
(if r336_90 = 0 then
(if (lg_cmp (o336_92 0) (Int32.toInt64 r380_100)) = 0 then
rec M380_101 o336_92 (w4 + (7 : Int32))
else
(some (0 : Int32)))
else
rec M380_101 o336_92 (w4 + (7 : Int32)))
else
(some (0 : Int32)))
else
sm_b2 (f_Model_define M336_91 (xs (Int32.toNatClampNeg (w4 + (1 : Int32)))) (xs (Int32.toNatClampNeg (w4 + (2 : Int32)))) (xs (Int32.toNatClampNeg (w4 + (3 : Int32)))) (xs (Int32.toNatClampNeg (w4 + (4 : Int32)))) (1 : Int32)) fun r380_111 M380_112 =>
sm_b1 (f_Model_thrown M380_112) fun r386_115 =>
(if r386_115 = r336_90 then
(if r336_90 = 0 then
(if (lg_cmp (o336_92 0) (Int32.toInt64 r380_111)) = 0 then
rec M380_112 o336_92 (w4 + (7 : Int32))
else
(some (0 : Int32)))
else
rec M380_112 o336_92 (w4 + (7 : Int32)))
else
(some (0 : Int32)))))))))))))))
def lf_3 (L : Nat) (xs : Nat → Int32) (rec : sm_M → sm_O → Int32 → Option Int32) (M : sm_M) (o : sm_O) (w4 : Int32) : Option Int32 :=
sm_gd (w4 + (1 : Int32)) L (
sm_gd (w4 + (2 : Int32)) L (
sm_gd (w4 + (3 : Int32)) L (
sm_gd (w4 + (4 : Int32)) L (
sm_gd (w4 + (5 : Int32)) L (
sm_gd (w4 + (6 : Int32)) L (
sm_b3 (f_Law_fix M o (xs (Int32.toNatClampNeg (w4 + (1 : Int32)))) (xs (Int32.toNatClampNeg (w4 + (2 : Int32)))) (xs (Int32.toNatClampNeg (w4 + (3 : Int32)))) (xs (Int32.toNatClampNeg (w4 + (4 : Int32)))) (xs (Int32.toNatClampNeg (w4 + (5 : Int32)))) (xs (Int32.toNatClampNeg (w4 + (6 : Int32))))) fun r455_129 M455_130 o455_131 =>
sm_gd (w4 + (1 : Int32)) L (
sm_gd (w4 + (2 : Int32)) L (
sm_gd (w4 + (3 : Int32)) L (
sm_gd (w4 + (4 : Int32)) L (
sm_gd (w4 + (5 : Int32)) L (
sm_gd (w4 + (6 : Int32)) L (
sm_b2 (f_Model_fix M455_130 (xs (Int32.toNatClampNeg (w4 + (1 : Int32)))) (xs (Int32.toNatClampNeg (w4 + (2 : Int32)))) (xs (Int32.toNatClampNeg (w4 + (3 : Int32)))) (xs (Int32.toNatClampNeg (w4 + (4 : Int32)))) (xs (Int32.toNatClampNeg (w4 + (5 : Int32)))) (xs (Int32.toNatClampNeg (w4 + (6 : Int32))))) fun r498_139 M498_140 =>
sm_b1 (f_Model_thrown M498_140) fun r504_143 =>
(if r504_143 = r455_129 then
(if r455_129 = 0 then
(if (lg_cmp (o455_131 0) (Int32.toInt64 r498_139)) = 0 then
rec M498_140 o455_131 (w4 + (7 : Int32))
else
(some (0 : Int32)))
else
rec M498_140 o455_131 (w4 + (7 : Int32)))
else
(some (0 : Int32)))))))))))))))
def lf_4 (L : Nat) (xs : Nat → Int32) (rec : sm_M → sm_O → Int32 → Option Int32) (M : sm_M) (o : sm_O) (w4 : Int32) : Option Int32 :=
sm_gd (w4 + (1 : Int32)) L (
sm_b3 (f_Law_clear M o (xs (Int32.toNatClampNeg (w4 + (1 : Int32))))) fun r542_152 M542_153 o542_154 =>
sm_gd (w4 + (1 : Int32)) L (
sm_b2 (f_Model_clear M542_153 (xs (Int32.toNatClampNeg (w4 + (1 : Int32))))) fun r554_157 M554_158 =>
sm_b1 (f_Model_thrown M554_158) fun r560_161 =>
(if r560_161 = r542_152 then
(if r542_152 = 0 then
(if r554_157 = 0 then
(if (lg_cmp (o542_154 0) (0 : Int64)) = 0 then
rec M554_158 o542_154 (w4 + (7 : Int32))
else
(some (0 : Int32)))
else
(if (lg_cmp (o542_154 0) (1 : Int64)) = 0 then
rec M554_158 o542_154 (w4 + (7 : Int32))
else
(some (0 : Int32))))
else
rec M554_158 o542_154 (w4 + (7 : Int32)))
else
(some (0 : Int32)))))
def lf_5 (L : Nat) (xs : Nat → Int32) (rec : sm_M → sm_O → Int32 → Option Int32) (M : sm_M) (o : sm_O) (w4 : Int32) : Option Int32 :=
sm_gd (w4 + (1 : Int32)) L (
sm_gd (w4 + (2 : Int32)) L (
sm_b3 (f_Law_link M o (xs (Int32.toNatClampNeg (w4 + (1 : Int32)))) (xs (Int32.toNatClampNeg (w4 + (2 : Int32))))) fun r611_173 M611_174 o611_175 =>
sm_gd (w4 + (1 : Int32)) L (
sm_gd (w4 + (2 : Int32)) L (
sm_b2 (f_Model_link M611_174 (xs (Int32.toNatClampNeg (w4 + (1 : Int32)))) (xs (Int32.toNatClampNeg (w4 + (2 : Int32))))) fun r629_179 M629_180 =>
sm_b1 (f_Model_thrown M629_180) fun r635_183 =>
(if r635_183 = r611_173 then
(if r611_173 = 0 then
(if (lg_cmp (o611_175 0) (Int32.toInt64 r629_179)) = 0 then
rec M629_180 o611_175 (w4 + (7 : Int32))
else
(some (0 : Int32)))
else
rec M629_180 o611_175 (w4 + (7 : Int32)))
else
(some (0 : Int32)))))))
def lf_6 (L : Nat) (xs : Nat → Int32) (rec : sm_M → sm_O → Int32 → Option Int32) (M : sm_M) (o : sm_O) (w4 : Int32) : Option Int32 :=
sm_gd (w4 + (1 : Int32)) L (
sm_b1 (f_Mill_image M (xs (Int32.toNatClampNeg (w4 + (1 : Int32))))) fun r672_192 =>
sm_gd (w4 + (1 : Int32)) L (
sm_b2 (f_Model_image M (xs (Int32.toNatClampNeg (w4 + (1 : Int32))))) fun r682_197 M682_198 =>
(if r672_192 = r682_197 then
rec M682_198 o (w4 + (7 : Int32))
else
(some (0 : Int32)))))
def lf_7 (L : Nat) (xs : Nat → Int32) (rec : sm_M → sm_O → Int32 → Option Int32) (M : sm_M) (o : sm_O) (w4 : Int32) : Option Int32 :=
sm_gd (w4 + (1 : Int32)) L (
sm_gd (w4 + (2 : Int32)) L (
sm_b3 (f_Law_alter M o (xs (Int32.toNatClampNeg (w4 + (1 : Int32)))) (xs (Int32.toNatClampNeg (w4 + (2 : Int32))))) fun r704_205 M704_206 o704_207 =>
sm_gd (w4 + (1 : Int32)) L (
sm_gd (w4 + (2 : Int32)) L (
sm_b2 (f_Model_alter M704_206 (xs (Int32.toNatClampNeg (w4 + (1 : Int32)))) (xs (Int32.toNatClampNeg (w4 + (2 : Int32))))) fun r722_211 M722_212 =>
sm_b1 (f_Model_thrown M722_212) fun r728_215 =>
(if r728_215 = r704_205 then
(if r704_205 = 0 then
(if r722_211 = 0 then
(if (lg_cmp (o704_207 0) (0 : Int64)) = 0 then
rec M722_212 o704_207 (w4 + (7 : Int32))
else
(some (0 : Int32)))
else
(if (lg_cmp (o704_207 0) (1 : Int64)) = 0 then
rec M722_212 o704_207 (w4 + (7 : Int32))
else
(some (0 : Int32))))
else
rec M722_212 o704_207 (w4 + (7 : Int32)))
else
(some (0 : Int32)))))))
def lf_8 (L : Nat) (xs : Nat → Int32) (rec : sm_M → sm_O → Int32 → Option Int32) (M : sm_M) (o : sm_O) (w4 : Int32) : Option Int32 :=
sm_gd (w4 + (1 : Int32)) L (
sm_b3 (f_Law_stretch M o (xs (Int32.toNatClampNeg (w4 + (1 : Int32))))) fun r773_226 M773_227 o773_228 =>
sm_gd (w4 + (1 : Int32)) L (
sm_b2 (f_Model_stretch M773_227 (xs (Int32.toNatClampNeg (w4 + (1 : Int32))))) fun r785_231 M785_232 =>
sm_b1 (f_Model_thrown M785_232) fun r791_235 =>
(if r791_235 = r773_226 then
(if r773_226 = 0 then
(if (lg_cmp (o773_228 0) (Int32.toInt64 r785_231)) = 0 then
rec M785_232 o773_228 (w4 + (7 : Int32))
else
(some (0 : Int32)))
else
rec M785_232 o773_228 (w4 + (7 : Int32)))
else
(some (0 : Int32)))))
def lf_9 (L : Nat) (xs : Nat → Int32) (rec : sm_M → sm_O → Int32 → Option Int32) (M : sm_M) (o : sm_O) (w4 : Int32) : Option Int32 :=
sm_b2 (f_Mill_read M) fun r822_243 M822_244 =>
sm_b2 (f_Model_read M822_244) fun r826_247 M826_248 =>
(if r822_243 = r826_247 then
rec M826_248 o (w4 + (7 : Int32))
else
(some (0 : Int32)))
def lf_10 (L : Nat) (xs : Nat → Int32) (rec : sm_M → sm_O → Int32 → Option Int32) (M : sm_M) (o : sm_O) (w4 : Int32) : Option Int32 :=
sm_gd (w4 + (1 : Int32)) L (
sm_b3 (f_Law_run M o (xs (Int32.toNatClampNeg (w4 + (1 : Int32))))) fun r842_254 M842_255 o842_256 =>
sm_gd (w4 + (1 : Int32)) L (
sm_b2 (f_Model_run M842_255 (xs (Int32.toNatClampNeg (w4 + (1 : Int32))))) fun r854_259 M854_260 =>
sm_b1 (f_Model_thrown M854_260) fun r860_263 =>
(if r860_263 = r842_254 then
(if r842_254 = 0 then
(if (lg_cmp (o842_256 0) (Int32.toInt64 r854_259)) = 0 then
rec M854_260 o842_256 (w4 + (7 : Int32))
else
(some (0 : Int32)))
else
rec M854_260 o842_256 (w4 + (7 : Int32)))
else
(some (0 : Int32)))))
def lf_11 (L : Nat) (xs : Nat → Int32) (rec : sm_M → sm_O → Int32 → Option Int32) (M : sm_M) (o : sm_O) (w4 : Int32) : Option Int32 :=
sm_gd (w4 + (1 : Int32)) L (
sm_b1 (f_Mill_value M (xs (Int32.toNatClampNeg (w4 + (1 : Int32))))) fun r897_272 =>
sm_gd (w4 + (1 : Int32)) L (
sm_b2 (f_Model_value M (xs (Int32.toNatClampNeg (w4 + (1 : Int32))))) fun r907_277 M907_278 =>
(if r897_272 = r907_277 then
rec M907_278 o (w4 + (7 : Int32))
else
(some (0 : Int32)))))
def lf_12 (L : Nat) (xs : Nat → Int32) (rec : sm_M → sm_O → Int32 → Option Int32) (M : sm_M) (o : sm_O) (w4 : Int32) : Option Int32 :=
sm_gd (w4 + (1 : Int32)) L (
sm_b1 (f_Mill_register M (xs (Int32.toNatClampNeg (w4 + (1 : Int32))))) fun r922_284 =>
sm_gd (w4 + (1 : Int32)) L (
sm_b2 (f_Model_register M (xs (Int32.toNatClampNeg (w4 + (1 : Int32))))) fun r932_289 M932_290 =>
(if r922_284 = r932_289 then
rec M932_290 o (w4 + (7 : Int32))
else
(some (0 : Int32)))))
def lf_13 (L : Nat) (xs : Nat → Int32) (rec : sm_M → sm_O → Int32 → Option Int32) (M : sm_M) (o : sm_O) (w4 : Int32) : Option Int32 :=
sm_gd (w4 + (1 : Int32)) L (
sm_b3 (f_Law_memory M o (xs (Int32.toNatClampNeg (w4 + (1 : Int32))))) fun r948_296 M948_297 o948_298 =>
sm_gd (w4 + (1 : Int32)) L (
sm_b2 (f_Model_memory M948_297 (xs (Int32.toNatClampNeg (w4 + (1 : Int32))))) fun r960_301 M960_302 =>
sm_b1 (f_Model_thrown M960_302) fun r966_305 =>
(if r966_305 = r948_296 then
(if r948_296 = 0 then
(if (lg_cmp (o948_298 0) (Int32.toInt64 r960_301)) = 0 then
rec M960_302 o948_298 (w4 + (7 : Int32))
else
(some (0 : Int32)))
else
rec M960_302 o948_298 (w4 + (7 : Int32)))
else
(some (0 : Int32)))))
def lf_14 (L : Nat) (xs : Nat → Int32) (rec : sm_M → sm_O → Int32 → Option Int32) (M : sm_M) (o : sm_O) (w4 : Int32) : Option Int32 :=
sm_gd (w4 + (1 : Int32)) L (
sm_b1 (f_Mill_shown M (xs (Int32.toNatClampNeg (w4 + (1 : Int32))))) fun r1003_314 =>
sm_gd (w4 + (1 : Int32)) L (
sm_b2 (f_Model_shown M (xs (Int32.toNatClampNeg (w4 + (1 : Int32))))) fun r1013_319 M1013_320 =>
(if r1003_314 = r1013_319 then
rec M1013_320 o (w4 + (7 : Int32))
else
(some (0 : Int32)))))
def lf_15 (L : Nat) (xs : Nat → Int32) (rec : sm_M → sm_O → Int32 → Option Int32) (M : sm_M) (o : sm_O) (w4 : Int32) : Option Int32 :=
sm_gd (w4 + (1 : Int32)) L (
sm_b1 (f_Mill_about M (xs (Int32.toNatClampNeg (w4 + (1 : Int32))))) fun r1028_326 =>
sm_gd (w4 + (1 : Int32)) L (
sm_b2 (f_Model_about M (xs (Int32.toNatClampNeg (w4 + (1 : Int32))))) fun r1038_331 M1038_332 =>
(if r1028_326 = r1038_331 then
rec M1038_332 o (w4 + (7 : Int32))
else
(some (0 : Int32)))))
def lf_16 (L : Nat) (xs : Nat → Int32) (rec : sm_M → sm_O → Int32 → Option Int32) (M : sm_M) (o : sm_O) (w4 : Int32) : Option Int32 :=
sm_gd (w4 + (1 : Int32)) L (
sm_gd (w4 + (2 : Int32)) L (
sm_b1 (f_Mill_object M (xs (Int32.toNatClampNeg (w4 + (1 : Int32)))) (xs (Int32.toNatClampNeg (w4 + (2 : Int32))))) fun r1059_339 =>
sm_gd (w4 + (1 : Int32)) L (
sm_gd (w4 + (2 : Int32)) L (
sm_b2 (f_Model_object M (xs (Int32.toNatClampNeg (w4 + (1 : Int32)))) (xs (Int32.toNatClampNeg (w4 + (2 : Int32))))) fun r1075_345 M1075_346 =>
(if r1059_339 = r1075_345 then
rec M1075_346 o (w4 + (7 : Int32))
else
(some (0 : Int32)))))))
def g_Law (L : Nat) (xs : Nat → Int32) (rec : sm_M → sm_O → Int32 → Option Int32) (M : sm_M) (o : sm_O) (w4 : Int32) : Option Int32 :=
(if ((Int32.ofNat L) - (7 : Int32)) < w4 then
(some (1 : Int32))
else
sm_gd w4 L (
sm_nm ((xs (Int32.toNatClampNeg w4)) &&& (31 : Int32)) fun x40_3 =>
(if x40_3 = 0 then
lf_0 L xs rec M o w4
else
(if x40_3 = 1 then
lf_1 L xs rec M o w4
else
(if x40_3 = 2 then
lf_2 L xs rec M o w4
else
(if x40_3 = 3 then
lf_3 L xs rec M o w4
else
(if x40_3 = 4 then
lf_4 L xs rec M o w4
else
(if x40_3 = 5 then
lf_5 L xs rec M o w4
else
(if x40_3 = 6 then
lf_6 L xs rec M o w4
else
(if x40_3 = 7 then
lf_7 L xs rec M o w4
else
(if x40_3 = 8 then
lf_8 L xs rec M o w4
else
(if x40_3 = 9 then
lf_9 L xs rec M o w4
else
(if x40_3 = 10 then
lf_10 L xs rec M o w4
else
(if x40_3 = 11 then
lf_11 L xs rec M o w4
else
(if x40_3 = 12 then
lf_12 L xs rec M o w4
else
(if x40_3 = 13 then
lf_13 L xs rec M o w4
else
(if x40_3 = 14 then
lf_14 L xs rec M o w4
else
(if x40_3 = 15 then
lf_15 L xs rec M o w4
else
(if x40_3 = 16 then
lf_16 L xs rec M o w4
else
rec M o (w4 + (7 : Int32)))))))))))))))))))))
set_option maxHeartbeats 4000000 in
set_option maxRecDepth 100000 in
theorem lc_0 {p : Program} {l : Launch} {e : Env} {s : State} {m : MethodId} {below : List Frame} {meth : Method} {c : Code} {v : sm_V} {w0 : Cond} {b L : Nat} {xs : Nat → Int32} (hfl : l.flags = pinnedFlags ++ [noTraceFlag]) (hC : CallFix p m c code 7 s #[Value.ref b] (w0 :: sm_AW) R_Law) (hr : meth.sig.returnType = ret) (hlk : meth.locks = false) (hK : sm_K v s) (hX : va_X b L xs s s.heap) (hbl : b < s.heap.size) (hbA : ¬ sm_A v b) (hv : v.2.1 = s.heap.size) (n : Nat) {rec : sm_M → sm_O → Int32 → Option Int32} (ih : ∀ (M : sm_M) (o : sm_O) (w4 : Int32) (K S : Nat) (H : Heap) (locs : List Loc) (ls : Array Slot), K + n ≤ 601024 → S + 6 * n ≤ 7293034 → sm_G v M o s H locs → lv_has ls 7 [(4, .int w4), (3, .ref (sm_a v 90)), (2, .ref (sm_a v 68)), (1, .ref (sm_a v 0)), (0, .ref b)] → rec M o w4 = some 1 → W p l e room_1 s m #[Value.ref b] below meth c H locs K S (lw_Z below #[Value.ref b] s) (F0 m 23 ls [])) (M : sm_M) (o : sm_O) (w4 : Int32) (K S : Nat) {H : Heap} {locs : List Loc} {ls : Array Slot} (hKn : K + (n + 1) ≤ 601024) (hSn : S + 6 * (n + 1) ≤ 7293034) (hG : sm_G v M o s H locs) (hl : lv_has ls 7 [(4, .int w4), (3, .ref (sm_a v 90)), (2, .ref (sm_a v 68)), (1, .ref (sm_a v 0)), (0, .ref b)]) (hf : lf_0 L xs rec M o w4 = some 1) : W p l e room_1 s m #[Value.ref b] below meth c H locs K S (lw_Z below #[Value.ref b] s) (F0 m 124 ls []) := by
  have hx := hC.1
  have hb := hC.2.1
  have hk0 : K + 0 ≤ room_1.cells ∧ S + 0 ≤ room_1.slots := ⟨by show K + 0 ≤ 601024; omega, by show S + 0 ≤ 7293034; omega⟩
  have hk1 : K + 1 ≤ room_1.cells ∧ S + 6 ≤ room_1.slots := ⟨by show K + 1 ≤ 601024; omega, by show S + 6 ≤ 7293034; omega⟩
  have hk2 : K + 1 + 0 ≤ room_1.cells ∧ S + 6 + 0 ≤ room_1.slots := ⟨by show K + 1 + 0 ≤ 601024; omega, by show S + 6 + 0 ≤ 7293034; omega⟩
  unfold lf_0 at hf
  refine lv_aload_n hx hb d_Law_law_124 rfl (lv_at hl 3 rfl) ?_
  refine lv_aload_n hx hb d_Law_law_125 rfl (lv_at hl 4 rfl) ?_
  refine lv_iload hx hb d_Law_law_126 (lv_at hl 0 rfl) ?_
  refine lv_iconst (v := 1) hx hb d_Law_law_128 (by decide) ?_
  refine lv_iadd hx hb d_Law_law_129 ?_
  obtain ⟨h130_5, hf⟩ := sm_of_gd hf
  refine va_sld hx hb hX hbl hbA hG.2 h130_5 d_Law_law_130 ?_
  refine lv_aload_n hx hb d_Law_law_131 rfl (lv_at hl 4 rfl) ?_
  refine lv_iload hx hb d_Law_law_132 (lv_at hl 0 rfl) ?_
  refine lv_iconst (v := 2) hx hb d_Law_law_134 (by decide) ?_
  refine lv_iadd hx hb d_Law_law_135 ?_
  obtain ⟨h136_6, hf⟩ := sm_of_gd hf
  refine va_sld hx hb hX hbl hbA hG.2 h136_6 d_Law_law_136 ?_
  refine lv_aload_n hx hb d_Law_law_137 rfl (lv_at hl 4 rfl) ?_
  refine lv_iload hx hb d_Law_law_138 (lv_at hl 0 rfl) ?_
  refine lv_iconst (v := 3) hx hb d_Law_law_140 (by decide) ?_
  refine lv_iadd hx hb d_Law_law_141 ?_
  obtain ⟨h142_7, hf⟩ := sm_of_gd hf
  refine va_sld hx hb hX hbl hbA hG.2 h142_7 d_Law_law_142 ?_
  refine lv_aload_n hx hb d_Law_law_143 rfl (lv_at hl 4 rfl) ?_
  refine lv_iload hx hb d_Law_law_144 (lv_at hl 0 rfl) ?_
  refine lv_iconst (v := 4) hx hb d_Law_law_146 (by decide) ?_
  refine lv_iadd hx hb d_Law_law_147 ?_
  obtain ⟨h148_8, hf⟩ := sm_of_gd hf
  refine va_sld hx hb hX hbl hbA hG.2 h148_8 d_Law_law_148 ?_
  refine lv_aload_n hx hb d_Law_law_149 rfl (lv_at hl 4 rfl) ?_
  refine lv_iload hx hb d_Law_law_150 (lv_at hl 0 rfl) ?_
  refine lv_iconst (v := 5) hx hb d_Law_law_152 (by decide) ?_
  refine lv_iadd hx hb d_Law_law_153 ?_
  obtain ⟨h154_9, hf⟩ := sm_of_gd hf
  refine va_sld hx hb hX hbl hbA hG.2 h154_9 d_Law_law_154 ?_
  refine lv_aload_n hx hb d_Law_law_155 rfl (lv_at hl 1 rfl) ?_
  obtain ⟨r156_11, M156_12, o156_13, hc156_10, hf⟩ := sm_of_b3 hf
  refine ca_Law_56 hC hK hG (c_Law_put hfl hc156_10) hl.1 ⟨Nat.le_of_ble_eq_true rfl, Nat.le_of_ble_eq_true rfl⟩ hk1 (Nat.le_of_ble_eq_true rfl) d_Law_law_156 (fun H locs hG => ?_)
  refine lv_istore hx hb d_Law_law_159 hl (Nat.le_of_ble_eq_true rfl) rfl (fun ls hl => ?_)
  have hl : lv_has ls 7 [(5, .int r156_11), (4, .int w4), (3, .ref (sm_a v 90)), (2, .ref (sm_a v 68)), (1, .ref (sm_a v 0)), (0, .ref b)] := hl
  refine lv_aload_n hx hb d_Law_law_161 rfl (lv_at hl 3 rfl) ?_
  refine lv_aload_n hx hb d_Law_law_162 rfl (lv_at hl 5 rfl) ?_
  refine lv_iload hx hb d_Law_law_163 (lv_at hl 1 rfl) ?_
  refine lv_iconst (v := 1) hx hb d_Law_law_165 (by decide) ?_
  refine lv_iadd hx hb d_Law_law_166 ?_
  obtain ⟨h167_14, hf⟩ := sm_of_gd hf
  refine va_sld hx hb hX hbl hbA hG.2 h167_14 d_Law_law_167 ?_
  refine lv_aload_n hx hb d_Law_law_168 rfl (lv_at hl 5 rfl) ?_
  refine lv_iload hx hb d_Law_law_169 (lv_at hl 1 rfl) ?_
  refine lv_iconst (v := 2) hx hb d_Law_law_171 (by decide) ?_
  refine lv_iadd hx hb d_Law_law_172 ?_
  obtain ⟨h173_15, hf⟩ := sm_of_gd hf
  refine va_sld hx hb hX hbl hbA hG.2 h173_15 d_Law_law_173 ?_
  refine lv_aload_n hx hb d_Law_law_174 rfl (lv_at hl 5 rfl) ?_
  refine lv_iload hx hb d_Law_law_175 (lv_at hl 1 rfl) ?_
  refine lv_iconst (v := 3) hx hb d_Law_law_177 (by decide) ?_
  refine lv_iadd hx hb d_Law_law_178 ?_
  obtain ⟨h179_16, hf⟩ := sm_of_gd hf
  refine va_sld hx hb hX hbl hbA hG.2 h179_16 d_Law_law_179 ?_
  refine lv_aload_n hx hb d_Law_law_180 rfl (lv_at hl 5 rfl) ?_
  refine lv_iload hx hb d_Law_law_181 (lv_at hl 1 rfl) ?_
  refine lv_iconst (v := 4) hx hb d_Law_law_183 (by decide) ?_
  refine lv_iadd hx hb d_Law_law_184 ?_
  obtain ⟨h185_17, hf⟩ := sm_of_gd hf
  refine va_sld hx hb hX hbl hbA hG.2 h185_17 d_Law_law_185 ?_
  refine lv_aload_n hx hb d_Law_law_186 rfl (lv_at hl 5 rfl) ?_
  refine lv_iload hx hb d_Law_law_187 (lv_at hl 1 rfl) ?_
  refine lv_iconst (v := 5) hx hb d_Law_law_189 (by decide) ?_
  refine lv_iadd hx hb d_Law_law_190 ?_
  obtain ⟨h191_18, hf⟩ := sm_of_gd hf
  refine va_sld hx hb hX hbl hbA hG.2 h191_18 d_Law_law_191 ?_
  obtain ⟨r192_20, M192_21, hc192_19, hf⟩ := sm_of_b2 hf
  refine ca_Law_61 hC hK hG (c_Model_put hc192_19) hl.1 ⟨Nat.le_of_ble_eq_true rfl, Nat.le_of_ble_eq_true rfl⟩ hk2 (Nat.le_of_ble_eq_true rfl) d_Law_law_192 (fun H locs hG => ?_)
  refine lv_istore hx hb d_Law_law_195 hl (Nat.le_of_ble_eq_true rfl) rfl (fun ls hl => ?_)
  have hl : lv_has ls 7 [(6, .int r192_20), (5, .int r156_11), (4, .int w4), (3, .ref (sm_a v 90)), (2, .ref (sm_a v 68)), (1, .ref (sm_a v 0)), (0, .ref b)] := hl
  refine lv_aload_n hx hb d_Law_law_197 rfl (lv_at hl 4 rfl) ?_
  obtain ⟨r198_24, hc198_23, hf⟩ := sm_of_b1 hf
  refine ca_Law_62 hC hK hG (c_Model_thrown hc198_23) hl.1 ⟨Nat.le_of_ble_eq_true rfl, Nat.le_of_ble_eq_true rfl⟩ hk2 (Nat.le_of_ble_eq_true rfl) d_Law_law_198 ?_
  refine lv_iload hx hb d_Law_law_201 (lv_at hl 1 rfl) ?_
  refine lv_icmp_eq hx hb d_Law_law_203 rfl (fun h203_27 => ?_) (fun h203_27 => ?_)
  · have hf := sm_t h203_27 hf
    refine lv_iload hx hb d_Law_law_208 (lv_at hl 1 rfl) ?_
    refine lv_if_ne hx hb d_Law_law_210 rfl (fun h210_28 => ?_) (fun h210_28 => ?_)
    · have hf := sm_f h210_28 hf
      refine lv_goto hx hb d_Law_law_225 rfl ?_
      refine lv_iinc (v := w4 + (7 : Int32)) (k := 2) hx hb d_Law_law_1083 hl rfl rfl (Nat.le_of_ble_eq_true rfl) rfl (fun ls hl => ?_)
      have hl : lv_has ls 7 [(4, .int (w4 + (7 : Int32))), (6, .int r192_20), (5, .int r156_11), (3, .ref (sm_a v 90)), (2, .ref (sm_a v 68)), (1, .ref (sm_a v 0)), (0, .ref b)] := hl
      refine lv_goto hx hb d_Law_law_1086 rfl ?_
      refine W.widen (k := K + 1) (n := S + 6) (by omega) (by omega) ?_
      exact ih _ _ _ (K + 1) (S + 6) _ _ ls (by omega) (by omega) hG (lv_sub hl [0, 3, 4, 5, 6] rfl) hf
    · have hf := sm_t h210_28 hf
      refine lv_aload_n hx hb d_Law_law_213 rfl (lv_at hl 3 rfl) ?_
      refine lv_iconst (v := 0) hx hb d_Law_law_214 (by decide) ?_
      refine sm_lald hC hK hG sm_in0 d_Law_law_215 ?_
      refine lv_iload hx hb d_Law_law_216 (lv_at hl 0 rfl) ?_
      refine lv_i2l hx hb d_Law_law_218 rfl ?_
      refine W.lcmp hx hb d_Law_law_219 ?_
      refine lv_if_eq hx hb d_Law_law_220 rfl (fun h220_29 => ?_) (fun h220_29 => ?_)
      · have hf := sm_t h220_29 hf
        refine lv_goto hx hb d_Law_law_225 rfl ?_
        refine lv_iinc (v := w4 + (7 : Int32)) (k := 2) hx hb d_Law_law_1083 hl rfl rfl (Nat.le_of_ble_eq_true rfl) rfl (fun ls hl => ?_)
        have hl : lv_has ls 7 [(4, .int (w4 + (7 : Int32))), (6, .int r192_20), (5, .int r156_11), (3, .ref (sm_a v 90)), (2, .ref (sm_a v 68)), (1, .ref (sm_a v 0)), (0, .ref b)] := hl
        refine lv_goto hx hb d_Law_law_1086 rfl ?_
        refine W.widen (k := K + 1) (n := S + 6) (by omega) (by omega) ?_
        exact ih _ _ _ (K + 1) (S + 6) _ _ ls (by omega) (by omega) hG (lv_sub hl [0, 3, 4, 5, 6] rfl) hf
      · have hf := sm_f h220_29 hf
        exact absurd (Option.some.inj hf) (by decide)
  · have hf := sm_f h203_27 hf
    exact absurd (Option.some.inj hf) (by decide)
set_option maxHeartbeats 4000000 in
set_option maxRecDepth 100000 in
theorem lc_1 {p : Program} {l : Launch} {e : Env} {s : State} {m : MethodId} {below : List Frame} {meth : Method} {c : Code} {v : sm_V} {w0 : Cond} {b L : Nat} {xs : Nat → Int32} (hfl : l.flags = pinnedFlags ++ [noTraceFlag]) (hC : CallFix p m c code 7 s #[Value.ref b] (w0 :: sm_AW) R_Law) (hr : meth.sig.returnType = ret) (hlk : meth.locks = false) (hK : sm_K v s) (hX : va_X b L xs s s.heap) (hbl : b < s.heap.size) (hbA : ¬ sm_A v b) (hv : v.2.1 = s.heap.size) (n : Nat) {rec : sm_M → sm_O → Int32 → Option Int32} (ih : ∀ (M : sm_M) (o : sm_O) (w4 : Int32) (K S : Nat) (H : Heap) (locs : List Loc) (ls : Array Slot), K + n ≤ 601024 → S + 6 * n ≤ 7293034 → sm_G v M o s H locs → lv_has ls 7 [(4, .int w4), (3, .ref (sm_a v 90)), (2, .ref (sm_a v 68)), (1, .ref (sm_a v 0)), (0, .ref b)] → rec M o w4 = some 1 → W p l e room_1 s m #[Value.ref b] below meth c H locs K S (lw_Z below #[Value.ref b] s) (F0 m 23 ls [])) (M : sm_M) (o : sm_O) (w4 : Int32) (K S : Nat) {H : Heap} {locs : List Loc} {ls : Array Slot} (hKn : K + (n + 1) ≤ 601024) (hSn : S + 6 * (n + 1) ≤ 7293034) (hG : sm_G v M o s H locs) (hl : lv_has ls 7 [(4, .int w4), (3, .ref (sm_a v 90)), (2, .ref (sm_a v 68)), (1, .ref (sm_a v 0)), (0, .ref b)]) (hf : lf_1 L xs rec M o w4 = some 1) : W p l e room_1 s m #[Value.ref b] below meth c H locs K S (lw_Z below #[Value.ref b] s) (F0 m 228 ls []) := by
  have hx := hC.1
  have hb := hC.2.1
  have hk0 : K + 0 ≤ room_1.cells ∧ S + 0 ≤ room_1.slots := ⟨by show K + 0 ≤ 601024; omega, by show S + 0 ≤ 7293034; omega⟩
  have hk1 : K + 1 ≤ room_1.cells ∧ S + 6 ≤ room_1.slots := ⟨by show K + 1 ≤ 601024; omega, by show S + 6 ≤ 7293034; omega⟩
  have hk2 : K + 1 + 0 ≤ room_1.cells ∧ S + 6 + 0 ≤ room_1.slots := ⟨by show K + 1 + 0 ≤ 601024; omega, by show S + 6 + 0 ≤ 7293034; omega⟩
  unfold lf_1 at hf
  refine lv_aload_n hx hb d_Law_law_228 rfl (lv_at hl 3 rfl) ?_
  refine lv_aload_n hx hb d_Law_law_229 rfl (lv_at hl 4 rfl) ?_
  refine lv_iload hx hb d_Law_law_230 (lv_at hl 0 rfl) ?_
  refine lv_iconst (v := 1) hx hb d_Law_law_232 (by decide) ?_
  refine lv_iadd hx hb d_Law_law_233 ?_
  obtain ⟨h234_31, hf⟩ := sm_of_gd hf
  refine va_sld hx hb hX hbl hbA hG.2 h234_31 d_Law_law_234 ?_
  refine lv_aload_n hx hb d_Law_law_235 rfl (lv_at hl 4 rfl) ?_
  refine lv_iload hx hb d_Law_law_236 (lv_at hl 0 rfl) ?_
  refine lv_iconst (v := 2) hx hb d_Law_law_238 (by decide) ?_
  refine lv_iadd hx hb d_Law_law_239 ?_
  obtain ⟨h240_32, hf⟩ := sm_of_gd hf
  refine va_sld hx hb hX hbl hbA hG.2 h240_32 d_Law_law_240 ?_
  refine lv_aload_n hx hb d_Law_law_241 rfl (lv_at hl 1 rfl) ?_
  obtain ⟨r242_34, M242_35, o242_36, hc242_33, hf⟩ := sm_of_b3 hf
  refine ca_Law_66 hC hK hG (c_Law_word hfl hc242_33) hl.1 ⟨Nat.le_of_ble_eq_true rfl, Nat.le_of_ble_eq_true rfl⟩ hk1 (Nat.le_of_ble_eq_true rfl) d_Law_law_242 (fun H locs hG => ?_)
  refine lv_istore hx hb d_Law_law_245 hl (Nat.le_of_ble_eq_true rfl) rfl (fun ls hl => ?_)
  have hl : lv_has ls 7 [(5, .int r242_34), (4, .int w4), (3, .ref (sm_a v 90)), (2, .ref (sm_a v 68)), (1, .ref (sm_a v 0)), (0, .ref b)] := hl
  refine lv_aload_n hx hb d_Law_law_247 rfl (lv_at hl 3 rfl) ?_
  refine lv_aload_n hx hb d_Law_law_248 rfl (lv_at hl 5 rfl) ?_
  refine lv_iload hx hb d_Law_law_249 (lv_at hl 1 rfl) ?_
  refine lv_iconst (v := 1) hx hb d_Law_law_251 (by decide) ?_
  refine lv_iadd hx hb d_Law_law_252 ?_
  obtain ⟨h253_37, hf⟩ := sm_of_gd hf
  refine va_sld hx hb hX hbl hbA hG.2 h253_37 d_Law_law_253 ?_
  refine lv_aload_n hx hb d_Law_law_254 rfl (lv_at hl 5 rfl) ?_
  refine lv_iload hx hb d_Law_law_255 (lv_at hl 1 rfl) ?_
  refine lv_iconst (v := 2) hx hb d_Law_law_257 (by decide) ?_
  refine lv_iadd hx hb d_Law_law_258 ?_
  obtain ⟨h259_38, hf⟩ := sm_of_gd hf
  refine va_sld hx hb hX hbl hbA hG.2 h259_38 d_Law_law_259 ?_
  obtain ⟨r260_40, M260_41, hc260_39, hf⟩ := sm_of_b2 hf
  refine ca_Law_69 hC hK hG (c_Model_word hc260_39) hl.1 ⟨Nat.le_of_ble_eq_true rfl, Nat.le_of_ble_eq_true rfl⟩ hk2 (Nat.le_of_ble_eq_true rfl) d_Law_law_260 (fun H locs hG => ?_)
  refine lv_istore hx hb d_Law_law_263 hl (Nat.le_of_ble_eq_true rfl) rfl (fun ls hl => ?_)
  have hl : lv_has ls 7 [(6, .int r260_40), (5, .int r242_34), (4, .int w4), (3, .ref (sm_a v 90)), (2, .ref (sm_a v 68)), (1, .ref (sm_a v 0)), (0, .ref b)] := hl
  refine lv_aload_n hx hb d_Law_law_265 rfl (lv_at hl 4 rfl) ?_
  obtain ⟨r266_44, hc266_43, hf⟩ := sm_of_b1 hf
  refine ca_Law_62 hC hK hG (c_Model_thrown hc266_43) hl.1 ⟨Nat.le_of_ble_eq_true rfl, Nat.le_of_ble_eq_true rfl⟩ hk2 (Nat.le_of_ble_eq_true rfl) d_Law_law_266 ?_
  refine lv_iload hx hb d_Law_law_269 (lv_at hl 1 rfl) ?_
  refine lv_icmp_eq hx hb d_Law_law_271 rfl (fun h271_47 => ?_) (fun h271_47 => ?_)
  · have hf := sm_t h271_47 hf
    refine lv_iload hx hb d_Law_law_276 (lv_at hl 1 rfl) ?_
    refine lv_if_ne hx hb d_Law_law_278 rfl (fun h278_48 => ?_) (fun h278_48 => ?_)
    · have hf := sm_f h278_48 hf
      refine lv_goto hx hb d_Law_law_293 rfl ?_
      refine lv_iinc (v := w4 + (7 : Int32)) (k := 2) hx hb d_Law_law_1083 hl rfl rfl (Nat.le_of_ble_eq_true rfl) rfl (fun ls hl => ?_)
      have hl : lv_has ls 7 [(4, .int (w4 + (7 : Int32))), (6, .int r260_40), (5, .int r242_34), (3, .ref (sm_a v 90)), (2, .ref (sm_a v 68)), (1, .ref (sm_a v 0)), (0, .ref b)] := hl
      refine lv_goto hx hb d_Law_law_1086 rfl ?_
      refine W.widen (k := K + 1) (n := S + 6) (by omega) (by omega) ?_
      exact ih _ _ _ (K + 1) (S + 6) _ _ ls (by omega) (by omega) hG (lv_sub hl [0, 3, 4, 5, 6] rfl) hf
    · have hf := sm_t h278_48 hf
      refine lv_aload_n hx hb d_Law_law_281 rfl (lv_at hl 3 rfl) ?_
      refine lv_iconst (v := 0) hx hb d_Law_law_282 (by decide) ?_
      refine sm_lald hC hK hG sm_in0 d_Law_law_283 ?_
      refine lv_iload hx hb d_Law_law_284 (lv_at hl 0 rfl) ?_
      refine lv_i2l hx hb d_Law_law_286 rfl ?_
      refine W.lcmp hx hb d_Law_law_287 ?_
      refine lv_if_eq hx hb d_Law_law_288 rfl (fun h288_49 => ?_) (fun h288_49 => ?_)
      · have hf := sm_t h288_49 hf
        refine lv_goto hx hb d_Law_law_293 rfl ?_
        refine lv_iinc (v := w4 + (7 : Int32)) (k := 2) hx hb d_Law_law_1083 hl rfl rfl (Nat.le_of_ble_eq_true rfl) rfl (fun ls hl => ?_)
        have hl : lv_has ls 7 [(4, .int (w4 + (7 : Int32))), (6, .int r260_40), (5, .int r242_34), (3, .ref (sm_a v 90)), (2, .ref (sm_a v 68)), (1, .ref (sm_a v 0)), (0, .ref b)] := hl
        refine lv_goto hx hb d_Law_law_1086 rfl ?_
        refine W.widen (k := K + 1) (n := S + 6) (by omega) (by omega) ?_
        exact ih _ _ _ (K + 1) (S + 6) _ _ ls (by omega) (by omega) hG (lv_sub hl [0, 3, 4, 5, 6] rfl) hf
      · have hf := sm_f h288_49 hf
        exact absurd (Option.some.inj hf) (by decide)
  · have hf := sm_f h271_47 hf
    exact absurd (Option.some.inj hf) (by decide)
set_option maxHeartbeats 4000000 in
set_option maxRecDepth 100000 in
theorem lc_2 {p : Program} {l : Launch} {e : Env} {s : State} {m : MethodId} {below : List Frame} {meth : Method} {c : Code} {v : sm_V} {w0 : Cond} {b L : Nat} {xs : Nat → Int32} (hfl : l.flags = pinnedFlags ++ [noTraceFlag]) (hC : CallFix p m c code 7 s #[Value.ref b] (w0 :: sm_AW) R_Law) (hr : meth.sig.returnType = ret) (hlk : meth.locks = false) (hK : sm_K v s) (hX : va_X b L xs s s.heap) (hbl : b < s.heap.size) (hbA : ¬ sm_A v b) (hv : v.2.1 = s.heap.size) (n : Nat) {rec : sm_M → sm_O → Int32 → Option Int32} (ih : ∀ (M : sm_M) (o : sm_O) (w4 : Int32) (K S : Nat) (H : Heap) (locs : List Loc) (ls : Array Slot), K + n ≤ 601024 → S + 6 * n ≤ 7293034 → sm_G v M o s H locs → lv_has ls 7 [(4, .int w4), (3, .ref (sm_a v 90)), (2, .ref (sm_a v 68)), (1, .ref (sm_a v 0)), (0, .ref b)] → rec M o w4 = some 1 → W p l e room_1 s m #[Value.ref b] below meth c H locs K S (lw_Z below #[Value.ref b] s) (F0 m 23 ls [])) (M : sm_M) (o : sm_O) (w4 : Int32) (K S : Nat) {H : Heap} {locs : List Loc} {ls : Array Slot} (hKn : K + (n + 1) ≤ 601024) (hSn : S + 6 * (n + 1) ≤ 7293034) (hG : sm_G v M o s H locs) (hl : lv_has ls 7 [(4, .int w4), (3, .ref (sm_a v 90)), (2, .ref (sm_a v 68)), (1, .ref (sm_a v 0)), (0, .ref b)]) (hf : lf_2 L xs rec M o w4 = some 1) : W p l e room_1 s m #[Value.ref b] below meth c H locs K S (lw_Z below #[Value.ref b] s) (F0 m 296 ls []) := by
  have hx := hC.1
  have hb := hC.2.1
  have hk0 : K + 0 ≤ room_1.cells ∧ S + 0 ≤ room_1.slots := ⟨by show K + 0 ≤ 601024; omega, by show S + 0 ≤ 7293034; omega⟩
  have hk1 : K + 1 ≤ room_1.cells ∧ S + 6 ≤ room_1.slots := ⟨by show K + 1 ≤ 601024; omega, by show S + 6 ≤ 7293034; omega⟩
  have hk2 : K + 1 + 0 ≤ room_1.cells ∧ S + 6 + 0 ≤ room_1.slots := ⟨by show K + 1 + 0 ≤ 601024; omega, by show S + 6 + 0 ≤ 7293034; omega⟩
  unfold lf_2 at hf
  refine lv_aload_n hx hb d_Law_law_296 rfl (lv_at hl 3 rfl) ?_
  refine lv_aload_n hx hb d_Law_law_297 rfl (lv_at hl 4 rfl) ?_
  refine lv_iload hx hb d_Law_law_298 (lv_at hl 0 rfl) ?_
  refine lv_iconst (v := 1) hx hb d_Law_law_300 (by decide) ?_
  refine lv_iadd hx hb d_Law_law_301 ?_
  obtain ⟨h302_51, hf⟩ := sm_of_gd hf
  refine va_sld hx hb hX hbl hbA hG.2 h302_51 d_Law_law_302 ?_
  refine lv_aload_n hx hb d_Law_law_303 rfl (lv_at hl 4 rfl) ?_
  refine lv_iload hx hb d_Law_law_304 (lv_at hl 0 rfl) ?_
  refine lv_iconst (v := 2) hx hb d_Law_law_306 (by decide) ?_
  refine lv_iadd hx hb d_Law_law_307 ?_
  obtain ⟨h308_52, hf⟩ := sm_of_gd hf
  refine va_sld hx hb hX hbl hbA hG.2 h308_52 d_Law_law_308 ?_
  refine lv_aload_n hx hb d_Law_law_309 rfl (lv_at hl 4 rfl) ?_
  refine lv_iload hx hb d_Law_law_310 (lv_at hl 0 rfl) ?_
  refine lv_iconst (v := 3) hx hb d_Law_law_312 (by decide) ?_
  refine lv_iadd hx hb d_Law_law_313 ?_
  obtain ⟨h314_53, hf⟩ := sm_of_gd hf
  refine va_sld hx hb hX hbl hbA hG.2 h314_53 d_Law_law_314 ?_
  refine lv_aload_n hx hb d_Law_law_315 rfl (lv_at hl 4 rfl) ?_
  refine lv_iload hx hb d_Law_law_316 (lv_at hl 0 rfl) ?_
  refine lv_iconst (v := 4) hx hb d_Law_law_318 (by decide) ?_
  refine lv_iadd hx hb d_Law_law_319 ?_
  obtain ⟨h320_54, hf⟩ := sm_of_gd hf
  refine va_sld hx hb hX hbl hbA hG.2 h320_54 d_Law_law_320 ?_
  refine lv_aload_n hx hb d_Law_law_321 rfl (lv_at hl 4 rfl) ?_
  refine lv_iload hx hb d_Law_law_322 (lv_at hl 0 rfl) ?_
  refine lv_iconst (v := 5) hx hb d_Law_law_324 (by decide) ?_
  refine lv_iadd hx hb d_Law_law_325 ?_
  obtain ⟨h326_55, hf⟩ := sm_of_gd hf
  refine va_sld hx hb hX hbl hbA hG.2 h326_55 d_Law_law_326 ?_
  refine lv_if_eq hx hb d_Law_law_327 rfl (fun h327_56 => ?_) (fun h327_56 => ?_)
  · have hf := sm_t h327_56 hf
    refine lv_iconst (v := 0) hx hb d_Law_law_334 (by decide) ?_
    refine lv_aload_n hx hb d_Law_law_335 rfl (lv_at hl 1 rfl) ?_
    obtain ⟨r336_58, M336_59, o336_60, hc336_57, hf⟩ := sm_of_b3 hf
    refine ca_Law_70 hC hK hG (c_Law_define hfl hc336_57) hl.1 ⟨Nat.le_of_ble_eq_true rfl, Nat.le_of_ble_eq_true rfl⟩ hk1 (Nat.le_of_ble_eq_true rfl) d_Law_law_336 (fun H locs hG => ?_)
    refine lv_istore hx hb d_Law_law_339 hl (Nat.le_of_ble_eq_true rfl) rfl (fun ls hl => ?_)
    have hl : lv_has ls 7 [(5, .int r336_58), (4, .int w4), (3, .ref (sm_a v 90)), (2, .ref (sm_a v 68)), (1, .ref (sm_a v 0)), (0, .ref b)] := hl
    refine lv_aload_n hx hb d_Law_law_341 rfl (lv_at hl 3 rfl) ?_
    refine lv_aload_n hx hb d_Law_law_342 rfl (lv_at hl 5 rfl) ?_
    refine lv_iload hx hb d_Law_law_343 (lv_at hl 1 rfl) ?_
    refine lv_iconst (v := 1) hx hb d_Law_law_345 (by decide) ?_
    refine lv_iadd hx hb d_Law_law_346 ?_
    obtain ⟨h347_61, hf⟩ := sm_of_gd hf
    refine va_sld hx hb hX hbl hbA hG.2 h347_61 d_Law_law_347 ?_
    refine lv_aload_n hx hb d_Law_law_348 rfl (lv_at hl 5 rfl) ?_
    refine lv_iload hx hb d_Law_law_349 (lv_at hl 1 rfl) ?_
    refine lv_iconst (v := 2) hx hb d_Law_law_351 (by decide) ?_
    refine lv_iadd hx hb d_Law_law_352 ?_
    obtain ⟨h353_62, hf⟩ := sm_of_gd hf
    refine va_sld hx hb hX hbl hbA hG.2 h353_62 d_Law_law_353 ?_
    refine lv_aload_n hx hb d_Law_law_354 rfl (lv_at hl 5 rfl) ?_
    refine lv_iload hx hb d_Law_law_355 (lv_at hl 1 rfl) ?_
    refine lv_iconst (v := 3) hx hb d_Law_law_357 (by decide) ?_
    refine lv_iadd hx hb d_Law_law_358 ?_
    obtain ⟨h359_63, hf⟩ := sm_of_gd hf
    refine va_sld hx hb hX hbl hbA hG.2 h359_63 d_Law_law_359 ?_
    refine lv_aload_n hx hb d_Law_law_360 rfl (lv_at hl 5 rfl) ?_
    refine lv_iload hx hb d_Law_law_361 (lv_at hl 1 rfl) ?_
    refine lv_iconst (v := 4) hx hb d_Law_law_363 (by decide) ?_
    refine lv_iadd hx hb d_Law_law_364 ?_
    obtain ⟨h365_64, hf⟩ := sm_of_gd hf
    refine va_sld hx hb hX hbl hbA hG.2 h365_64 d_Law_law_365 ?_
    refine lv_aload_n hx hb d_Law_law_366 rfl (lv_at hl 5 rfl) ?_
    refine lv_iload hx hb d_Law_law_367 (lv_at hl 1 rfl) ?_
    refine lv_iconst (v := 5) hx hb d_Law_law_369 (by decide) ?_
    refine lv_iadd hx hb d_Law_law_370 ?_
    obtain ⟨h371_65, hf⟩ := sm_of_gd hf
    refine va_sld hx hb hX hbl hbA hG.2 h371_65 d_Law_law_371 ?_
    refine lv_if_eq hx hb d_Law_law_372 rfl (fun h372_66 => ?_) (fun h372_66 => ?_)
    · have hf := sm_t h372_66 hf
      refine lv_iconst (v := 0) hx hb d_Law_law_379 (by decide) ?_
      obtain ⟨r380_68, M380_69, hc380_67, hf⟩ := sm_of_b2 hf
      refine ca_Law_73 hC hK hG (c_Model_define hc380_67) hl.1 ⟨Nat.le_of_ble_eq_true rfl, Nat.le_of_ble_eq_true rfl⟩ hk2 (Nat.le_of_ble_eq_true rfl) d_Law_law_380 (fun H locs hG => ?_)
      refine lv_istore hx hb d_Law_law_383 hl (Nat.le_of_ble_eq_true rfl) rfl (fun ls hl => ?_)
      have hl : lv_has ls 7 [(6, .int r380_68), (5, .int r336_58), (4, .int w4), (3, .ref (sm_a v 90)), (2, .ref (sm_a v 68)), (1, .ref (sm_a v 0)), (0, .ref b)] := hl
      refine lv_aload_n hx hb d_Law_law_385 rfl (lv_at hl 4 rfl) ?_
      obtain ⟨r386_72, hc386_71, hf⟩ := sm_of_b1 hf
      refine ca_Law_62 hC hK hG (c_Model_thrown hc386_71) hl.1 ⟨Nat.le_of_ble_eq_true rfl, Nat.le_of_ble_eq_true rfl⟩ hk2 (Nat.le_of_ble_eq_true rfl) d_Law_law_386 ?_
      refine lv_iload hx hb d_Law_law_389 (lv_at hl 1 rfl) ?_
      refine lv_icmp_eq hx hb d_Law_law_391 rfl (fun h391_75 => ?_) (fun h391_75 => ?_)
      · have hf := sm_t h391_75 hf
        refine lv_iload hx hb d_Law_law_396 (lv_at hl 1 rfl) ?_
        refine lv_if_ne hx hb d_Law_law_398 rfl (fun h398_76 => ?_) (fun h398_76 => ?_)
        · have hf := sm_f h398_76 hf
          refine lv_goto hx hb d_Law_law_413 rfl ?_
          refine lv_iinc (v := w4 + (7 : Int32)) (k := 2) hx hb d_Law_law_1083 hl rfl rfl (Nat.le_of_ble_eq_true rfl) rfl (fun ls hl => ?_)
          have hl : lv_has ls 7 [(4, .int (w4 + (7 : Int32))), (6, .int r380_68), (5, .int r336_58), (3, .ref (sm_a v 90)), (2, .ref (sm_a v 68)), (1, .ref (sm_a v 0)), (0, .ref b)] := hl
          refine lv_goto hx hb d_Law_law_1086 rfl ?_
          refine W.widen (k := K + 1) (n := S + 6) (by omega) (by omega) ?_
          exact ih _ _ _ (K + 1) (S + 6) _ _ ls (by omega) (by omega) hG (lv_sub hl [0, 3, 4, 5, 6] rfl) hf
        · have hf := sm_t h398_76 hf
          refine lv_aload_n hx hb d_Law_law_401 rfl (lv_at hl 3 rfl) ?_
          refine lv_iconst (v := 0) hx hb d_Law_law_402 (by decide) ?_
          refine sm_lald hC hK hG sm_in0 d_Law_law_403 ?_
          refine lv_iload hx hb d_Law_law_404 (lv_at hl 0 rfl) ?_
          refine lv_i2l hx hb d_Law_law_406 rfl ?_
          refine W.lcmp hx hb d_Law_law_407 ?_
          refine lv_if_eq hx hb d_Law_law_408 rfl (fun h408_77 => ?_) (fun h408_77 => ?_)
          · have hf := sm_t h408_77 hf
            refine lv_goto hx hb d_Law_law_413 rfl ?_
            refine lv_iinc (v := w4 + (7 : Int32)) (k := 2) hx hb d_Law_law_1083 hl rfl rfl (Nat.le_of_ble_eq_true rfl) rfl (fun ls hl => ?_)
            have hl : lv_has ls 7 [(4, .int (w4 + (7 : Int32))), (6, .int r380_68), (5, .int r336_58), (3, .ref (sm_a v 90)), (2, .ref (sm_a v 68)), (1, .ref (sm_a v 0)), (0, .ref b)] := hl
            refine lv_goto hx hb d_Law_law_1086 rfl ?_
            refine W.widen (k := K + 1) (n := S + 6) (by omega) (by omega) ?_
            exact ih _ _ _ (K + 1) (S + 6) _ _ ls (by omega) (by omega) hG (lv_sub hl [0, 3, 4, 5, 6] rfl) hf
          · have hf := sm_f h408_77 hf
            exact absurd (Option.some.inj hf) (by decide)
      · have hf := sm_f h391_75 hf
        exact absurd (Option.some.inj hf) (by decide)
    · have hf := sm_f h372_66 hf
      refine lv_iconst (v := 1) hx hb d_Law_law_375 (by decide) ?_
      refine lv_goto hx hb d_Law_law_376 rfl ?_
      obtain ⟨r380_79, M380_80, hc380_78, hf⟩ := sm_of_b2 hf
      refine ca_Law_73 hC hK hG (c_Model_define hc380_78) hl.1 ⟨Nat.le_of_ble_eq_true rfl, Nat.le_of_ble_eq_true rfl⟩ hk2 (Nat.le_of_ble_eq_true rfl) d_Law_law_380 (fun H locs hG => ?_)
      refine lv_istore hx hb d_Law_law_383 hl (Nat.le_of_ble_eq_true rfl) rfl (fun ls hl => ?_)
      have hl : lv_has ls 7 [(6, .int r380_79), (5, .int r336_58), (4, .int w4), (3, .ref (sm_a v 90)), (2, .ref (sm_a v 68)), (1, .ref (sm_a v 0)), (0, .ref b)] := hl
      refine lv_aload_n hx hb d_Law_law_385 rfl (lv_at hl 4 rfl) ?_
      obtain ⟨r386_83, hc386_82, hf⟩ := sm_of_b1 hf
      refine ca_Law_62 hC hK hG (c_Model_thrown hc386_82) hl.1 ⟨Nat.le_of_ble_eq_true rfl, Nat.le_of_ble_eq_true rfl⟩ hk2 (Nat.le_of_ble_eq_true rfl) d_Law_law_386 ?_
      refine lv_iload hx hb d_Law_law_389 (lv_at hl 1 rfl) ?_
      refine lv_icmp_eq hx hb d_Law_law_391 rfl (fun h391_86 => ?_) (fun h391_86 => ?_)
      · have hf := sm_t h391_86 hf
        refine lv_iload hx hb d_Law_law_396 (lv_at hl 1 rfl) ?_
        refine lv_if_ne hx hb d_Law_law_398 rfl (fun h398_87 => ?_) (fun h398_87 => ?_)
        · have hf := sm_f h398_87 hf
          refine lv_goto hx hb d_Law_law_413 rfl ?_
          refine lv_iinc (v := w4 + (7 : Int32)) (k := 2) hx hb d_Law_law_1083 hl rfl rfl (Nat.le_of_ble_eq_true rfl) rfl (fun ls hl => ?_)
          have hl : lv_has ls 7 [(4, .int (w4 + (7 : Int32))), (6, .int r380_79), (5, .int r336_58), (3, .ref (sm_a v 90)), (2, .ref (sm_a v 68)), (1, .ref (sm_a v 0)), (0, .ref b)] := hl
          refine lv_goto hx hb d_Law_law_1086 rfl ?_
          refine W.widen (k := K + 1) (n := S + 6) (by omega) (by omega) ?_
          exact ih _ _ _ (K + 1) (S + 6) _ _ ls (by omega) (by omega) hG (lv_sub hl [0, 3, 4, 5, 6] rfl) hf
        · have hf := sm_t h398_87 hf
          refine lv_aload_n hx hb d_Law_law_401 rfl (lv_at hl 3 rfl) ?_
          refine lv_iconst (v := 0) hx hb d_Law_law_402 (by decide) ?_
          refine sm_lald hC hK hG sm_in0 d_Law_law_403 ?_
          refine lv_iload hx hb d_Law_law_404 (lv_at hl 0 rfl) ?_
          refine lv_i2l hx hb d_Law_law_406 rfl ?_
          refine W.lcmp hx hb d_Law_law_407 ?_
          refine lv_if_eq hx hb d_Law_law_408 rfl (fun h408_88 => ?_) (fun h408_88 => ?_)
          · have hf := sm_t h408_88 hf
            refine lv_goto hx hb d_Law_law_413 rfl ?_
            refine lv_iinc (v := w4 + (7 : Int32)) (k := 2) hx hb d_Law_law_1083 hl rfl rfl (Nat.le_of_ble_eq_true rfl) rfl (fun ls hl => ?_)
            have hl : lv_has ls 7 [(4, .int (w4 + (7 : Int32))), (6, .int r380_79), (5, .int r336_58), (3, .ref (sm_a v 90)), (2, .ref (sm_a v 68)), (1, .ref (sm_a v 0)), (0, .ref b)] := hl
            refine lv_goto hx hb d_Law_law_1086 rfl ?_
            refine W.widen (k := K + 1) (n := S + 6) (by omega) (by omega) ?_
            exact ih _ _ _ (K + 1) (S + 6) _ _ ls (by omega) (by omega) hG (lv_sub hl [0, 3, 4, 5, 6] rfl) hf
          · have hf := sm_f h408_88 hf
            exact absurd (Option.some.inj hf) (by decide)
      · have hf := sm_f h391_86 hf
        exact absurd (Option.some.inj hf) (by decide)
  · have hf := sm_f h327_56 hf
    refine lv_iconst (v := 1) hx hb d_Law_law_330 (by decide) ?_
    refine lv_goto hx hb d_Law_law_331 rfl ?_
    refine lv_aload_n hx hb d_Law_law_335 rfl (lv_at hl 1 rfl) ?_
    obtain ⟨r336_90, M336_91, o336_92, hc336_89, hf⟩ := sm_of_b3 hf
    refine ca_Law_70 hC hK hG (c_Law_define hfl hc336_89) hl.1 ⟨Nat.le_of_ble_eq_true rfl, Nat.le_of_ble_eq_true rfl⟩ hk1 (Nat.le_of_ble_eq_true rfl) d_Law_law_336 (fun H locs hG => ?_)
    refine lv_istore hx hb d_Law_law_339 hl (Nat.le_of_ble_eq_true rfl) rfl (fun ls hl => ?_)
    have hl : lv_has ls 7 [(5, .int r336_90), (4, .int w4), (3, .ref (sm_a v 90)), (2, .ref (sm_a v 68)), (1, .ref (sm_a v 0)), (0, .ref b)] := hl
    refine lv_aload_n hx hb d_Law_law_341 rfl (lv_at hl 3 rfl) ?_
    refine lv_aload_n hx hb d_Law_law_342 rfl (lv_at hl 5 rfl) ?_
    refine lv_iload hx hb d_Law_law_343 (lv_at hl 1 rfl) ?_
    refine lv_iconst (v := 1) hx hb d_Law_law_345 (by decide) ?_
    refine lv_iadd hx hb d_Law_law_346 ?_
    obtain ⟨h347_93, hf⟩ := sm_of_gd hf
    refine va_sld hx hb hX hbl hbA hG.2 h347_93 d_Law_law_347 ?_
    refine lv_aload_n hx hb d_Law_law_348 rfl (lv_at hl 5 rfl) ?_
    refine lv_iload hx hb d_Law_law_349 (lv_at hl 1 rfl) ?_
    refine lv_iconst (v := 2) hx hb d_Law_law_351 (by decide) ?_
    refine lv_iadd hx hb d_Law_law_352 ?_
    obtain ⟨h353_94, hf⟩ := sm_of_gd hf
    refine va_sld hx hb hX hbl hbA hG.2 h353_94 d_Law_law_353 ?_
    refine lv_aload_n hx hb d_Law_law_354 rfl (lv_at hl 5 rfl) ?_
    refine lv_iload hx hb d_Law_law_355 (lv_at hl 1 rfl) ?_
    refine lv_iconst (v := 3) hx hb d_Law_law_357 (by decide) ?_
    refine lv_iadd hx hb d_Law_law_358 ?_
    obtain ⟨h359_95, hf⟩ := sm_of_gd hf
    refine va_sld hx hb hX hbl hbA hG.2 h359_95 d_Law_law_359 ?_
    refine lv_aload_n hx hb d_Law_law_360 rfl (lv_at hl 5 rfl) ?_
    refine lv_iload hx hb d_Law_law_361 (lv_at hl 1 rfl) ?_
    refine lv_iconst (v := 4) hx hb d_Law_law_363 (by decide) ?_
    refine lv_iadd hx hb d_Law_law_364 ?_
    obtain ⟨h365_96, hf⟩ := sm_of_gd hf
    refine va_sld hx hb hX hbl hbA hG.2 h365_96 d_Law_law_365 ?_
    refine lv_aload_n hx hb d_Law_law_366 rfl (lv_at hl 5 rfl) ?_
    refine lv_iload hx hb d_Law_law_367 (lv_at hl 1 rfl) ?_
    refine lv_iconst (v := 5) hx hb d_Law_law_369 (by decide) ?_
    refine lv_iadd hx hb d_Law_law_370 ?_
    obtain ⟨h371_97, hf⟩ := sm_of_gd hf
    refine va_sld hx hb hX hbl hbA hG.2 h371_97 d_Law_law_371 ?_
    refine lv_if_eq hx hb d_Law_law_372 rfl (fun h372_98 => ?_) (fun h372_98 => ?_)
    · have hf := sm_t h372_98 hf
      refine lv_iconst (v := 0) hx hb d_Law_law_379 (by decide) ?_
      obtain ⟨r380_100, M380_101, hc380_99, hf⟩ := sm_of_b2 hf
      refine ca_Law_73 hC hK hG (c_Model_define hc380_99) hl.1 ⟨Nat.le_of_ble_eq_true rfl, Nat.le_of_ble_eq_true rfl⟩ hk2 (Nat.le_of_ble_eq_true rfl) d_Law_law_380 (fun H locs hG => ?_)
      refine lv_istore hx hb d_Law_law_383 hl (Nat.le_of_ble_eq_true rfl) rfl (fun ls hl => ?_)
      have hl : lv_has ls 7 [(6, .int r380_100), (5, .int r336_90), (4, .int w4), (3, .ref (sm_a v 90)), (2, .ref (sm_a v 68)), (1, .ref (sm_a v 0)), (0, .ref b)] := hl
      refine lv_aload_n hx hb d_Law_law_385 rfl (lv_at hl 4 rfl) ?_
      obtain ⟨r386_104, hc386_103, hf⟩ := sm_of_b1 hf
      refine ca_Law_62 hC hK hG (c_Model_thrown hc386_103) hl.1 ⟨Nat.le_of_ble_eq_true rfl, Nat.le_of_ble_eq_true rfl⟩ hk2 (Nat.le_of_ble_eq_true rfl) d_Law_law_386 ?_
      refine lv_iload hx hb d_Law_law_389 (lv_at hl 1 rfl) ?_
      refine lv_icmp_eq hx hb d_Law_law_391 rfl (fun h391_107 => ?_) (fun h391_107 => ?_)
      · have hf := sm_t h391_107 hf
        refine lv_iload hx hb d_Law_law_396 (lv_at hl 1 rfl) ?_
        refine lv_if_ne hx hb d_Law_law_398 rfl (fun h398_108 => ?_) (fun h398_108 => ?_)
        · have hf := sm_f h398_108 hf
          refine lv_goto hx hb d_Law_law_413 rfl ?_
          refine lv_iinc (v := w4 + (7 : Int32)) (k := 2) hx hb d_Law_law_1083 hl rfl rfl (Nat.le_of_ble_eq_true rfl) rfl (fun ls hl => ?_)
          have hl : lv_has ls 7 [(4, .int (w4 + (7 : Int32))), (6, .int r380_100), (5, .int r336_90), (3, .ref (sm_a v 90)), (2, .ref (sm_a v 68)), (1, .ref (sm_a v 0)), (0, .ref b)] := hl
          refine lv_goto hx hb d_Law_law_1086 rfl ?_
          refine W.widen (k := K + 1) (n := S + 6) (by omega) (by omega) ?_
          exact ih _ _ _ (K + 1) (S + 6) _ _ ls (by omega) (by omega) hG (lv_sub hl [0, 3, 4, 5, 6] rfl) hf
        · have hf := sm_t h398_108 hf
          refine lv_aload_n hx hb d_Law_law_401 rfl (lv_at hl 3 rfl) ?_
          refine lv_iconst (v := 0) hx hb d_Law_law_402 (by decide) ?_
          refine sm_lald hC hK hG sm_in0 d_Law_law_403 ?_
          refine lv_iload hx hb d_Law_law_404 (lv_at hl 0 rfl) ?_
          refine lv_i2l hx hb d_Law_law_406 rfl ?_
          refine W.lcmp hx hb d_Law_law_407 ?_
          refine lv_if_eq hx hb d_Law_law_408 rfl (fun h408_109 => ?_) (fun h408_109 => ?_)
          · have hf := sm_t h408_109 hf
            refine lv_goto hx hb d_Law_law_413 rfl ?_
            refine lv_iinc (v := w4 + (7 : Int32)) (k := 2) hx hb d_Law_law_1083 hl rfl rfl (Nat.le_of_ble_eq_true rfl) rfl (fun ls hl => ?_)
            have hl : lv_has ls 7 [(4, .int (w4 + (7 : Int32))), (6, .int r380_100), (5, .int r336_90), (3, .ref (sm_a v 90)), (2, .ref (sm_a v 68)), (1, .ref (sm_a v 0)), (0, .ref b)] := hl
            refine lv_goto hx hb d_Law_law_1086 rfl ?_
            refine W.widen (k := K + 1) (n := S + 6) (by omega) (by omega) ?_
            exact ih _ _ _ (K + 1) (S + 6) _ _ ls (by omega) (by omega) hG (lv_sub hl [0, 3, 4, 5, 6] rfl) hf
          · have hf := sm_f h408_109 hf
            exact absurd (Option.some.inj hf) (by decide)
      · have hf := sm_f h391_107 hf
        exact absurd (Option.some.inj hf) (by decide)
    · have hf := sm_f h372_98 hf
      refine lv_iconst (v := 1) hx hb d_Law_law_375 (by decide) ?_
      refine lv_goto hx hb d_Law_law_376 rfl ?_
      obtain ⟨r380_111, M380_112, hc380_110, hf⟩ := sm_of_b2 hf
      refine ca_Law_73 hC hK hG (c_Model_define hc380_110) hl.1 ⟨Nat.le_of_ble_eq_true rfl, Nat.le_of_ble_eq_true rfl⟩ hk2 (Nat.le_of_ble_eq_true rfl) d_Law_law_380 (fun H locs hG => ?_)
      refine lv_istore hx hb d_Law_law_383 hl (Nat.le_of_ble_eq_true rfl) rfl (fun ls hl => ?_)
      have hl : lv_has ls 7 [(6, .int r380_111), (5, .int r336_90), (4, .int w4), (3, .ref (sm_a v 90)), (2, .ref (sm_a v 68)), (1, .ref (sm_a v 0)), (0, .ref b)] := hl
      refine lv_aload_n hx hb d_Law_law_385 rfl (lv_at hl 4 rfl) ?_
      obtain ⟨r386_115, hc386_114, hf⟩ := sm_of_b1 hf
      refine ca_Law_62 hC hK hG (c_Model_thrown hc386_114) hl.1 ⟨Nat.le_of_ble_eq_true rfl, Nat.le_of_ble_eq_true rfl⟩ hk2 (Nat.le_of_ble_eq_true rfl) d_Law_law_386 ?_
      refine lv_iload hx hb d_Law_law_389 (lv_at hl 1 rfl) ?_
      refine lv_icmp_eq hx hb d_Law_law_391 rfl (fun h391_118 => ?_) (fun h391_118 => ?_)
      · have hf := sm_t h391_118 hf
        refine lv_iload hx hb d_Law_law_396 (lv_at hl 1 rfl) ?_
        refine lv_if_ne hx hb d_Law_law_398 rfl (fun h398_119 => ?_) (fun h398_119 => ?_)
        · have hf := sm_f h398_119 hf
          refine lv_goto hx hb d_Law_law_413 rfl ?_
          refine lv_iinc (v := w4 + (7 : Int32)) (k := 2) hx hb d_Law_law_1083 hl rfl rfl (Nat.le_of_ble_eq_true rfl) rfl (fun ls hl => ?_)
          have hl : lv_has ls 7 [(4, .int (w4 + (7 : Int32))), (6, .int r380_111), (5, .int r336_90), (3, .ref (sm_a v 90)), (2, .ref (sm_a v 68)), (1, .ref (sm_a v 0)), (0, .ref b)] := hl
          refine lv_goto hx hb d_Law_law_1086 rfl ?_
          refine W.widen (k := K + 1) (n := S + 6) (by omega) (by omega) ?_
          exact ih _ _ _ (K + 1) (S + 6) _ _ ls (by omega) (by omega) hG (lv_sub hl [0, 3, 4, 5, 6] rfl) hf
        · have hf := sm_t h398_119 hf
          refine lv_aload_n hx hb d_Law_law_401 rfl (lv_at hl 3 rfl) ?_
          refine lv_iconst (v := 0) hx hb d_Law_law_402 (by decide) ?_
          refine sm_lald hC hK hG sm_in0 d_Law_law_403 ?_
          refine lv_iload hx hb d_Law_law_404 (lv_at hl 0 rfl) ?_
          refine lv_i2l hx hb d_Law_law_406 rfl ?_
          refine W.lcmp hx hb d_Law_law_407 ?_
          refine lv_if_eq hx hb d_Law_law_408 rfl (fun h408_120 => ?_) (fun h408_120 => ?_)
          · have hf := sm_t h408_120 hf
            refine lv_goto hx hb d_Law_law_413 rfl ?_
            refine lv_iinc (v := w4 + (7 : Int32)) (k := 2) hx hb d_Law_law_1083 hl rfl rfl (Nat.le_of_ble_eq_true rfl) rfl (fun ls hl => ?_)
            have hl : lv_has ls 7 [(4, .int (w4 + (7 : Int32))), (6, .int r380_111), (5, .int r336_90), (3, .ref (sm_a v 90)), (2, .ref (sm_a v 68)), (1, .ref (sm_a v 0)), (0, .ref b)] := hl
            refine lv_goto hx hb d_Law_law_1086 rfl ?_
            refine W.widen (k := K + 1) (n := S + 6) (by omega) (by omega) ?_
            exact ih _ _ _ (K + 1) (S + 6) _ _ ls (by omega) (by omega) hG (lv_sub hl [0, 3, 4, 5, 6] rfl) hf
          · have hf := sm_f h408_120 hf
            exact absurd (Option.some.inj hf) (by decide)
      · have hf := sm_f h391_118 hf
        exact absurd (Option.some.inj hf) (by decide)
set_option maxHeartbeats 4000000 in
set_option maxRecDepth 100000 in
theorem lc_3 {p : Program} {l : Launch} {e : Env} {s : State} {m : MethodId} {below : List Frame} {meth : Method} {c : Code} {v : sm_V} {w0 : Cond} {b L : Nat} {xs : Nat → Int32} (hfl : l.flags = pinnedFlags ++ [noTraceFlag]) (hC : CallFix p m c code 7 s #[Value.ref b] (w0 :: sm_AW) R_Law) (hr : meth.sig.returnType = ret) (hlk : meth.locks = false) (hK : sm_K v s) (hX : va_X b L xs s s.heap) (hbl : b < s.heap.size) (hbA : ¬ sm_A v b) (hv : v.2.1 = s.heap.size) (n : Nat) {rec : sm_M → sm_O → Int32 → Option Int32} (ih : ∀ (M : sm_M) (o : sm_O) (w4 : Int32) (K S : Nat) (H : Heap) (locs : List Loc) (ls : Array Slot), K + n ≤ 601024 → S + 6 * n ≤ 7293034 → sm_G v M o s H locs → lv_has ls 7 [(4, .int w4), (3, .ref (sm_a v 90)), (2, .ref (sm_a v 68)), (1, .ref (sm_a v 0)), (0, .ref b)] → rec M o w4 = some 1 → W p l e room_1 s m #[Value.ref b] below meth c H locs K S (lw_Z below #[Value.ref b] s) (F0 m 23 ls [])) (M : sm_M) (o : sm_O) (w4 : Int32) (K S : Nat) {H : Heap} {locs : List Loc} {ls : Array Slot} (hKn : K + (n + 1) ≤ 601024) (hSn : S + 6 * (n + 1) ≤ 7293034) (hG : sm_G v M o s H locs) (hl : lv_has ls 7 [(4, .int w4), (3, .ref (sm_a v 90)), (2, .ref (sm_a v 68)), (1, .ref (sm_a v 0)), (0, .ref b)]) (hf : lf_3 L xs rec M o w4 = some 1) : W p l e room_1 s m #[Value.ref b] below meth c H locs K S (lw_Z below #[Value.ref b] s) (F0 m 416 ls []) := by
  have hx := hC.1
  have hb := hC.2.1
  have hk0 : K + 0 ≤ room_1.cells ∧ S + 0 ≤ room_1.slots := ⟨by show K + 0 ≤ 601024; omega, by show S + 0 ≤ 7293034; omega⟩
  have hk1 : K + 1 ≤ room_1.cells ∧ S + 6 ≤ room_1.slots := ⟨by show K + 1 ≤ 601024; omega, by show S + 6 ≤ 7293034; omega⟩
  have hk2 : K + 1 + 0 ≤ room_1.cells ∧ S + 6 + 0 ≤ room_1.slots := ⟨by show K + 1 + 0 ≤ 601024; omega, by show S + 6 + 0 ≤ 7293034; omega⟩
  unfold lf_3 at hf
  refine lv_aload_n hx hb d_Law_law_416 rfl (lv_at hl 3 rfl) ?_
  refine lv_aload_n hx hb d_Law_law_417 rfl (lv_at hl 4 rfl) ?_
  refine lv_iload hx hb d_Law_law_418 (lv_at hl 0 rfl) ?_
  refine lv_iconst (v := 1) hx hb d_Law_law_420 (by decide) ?_
  refine lv_iadd hx hb d_Law_law_421 ?_
  obtain ⟨h422_122, hf⟩ := sm_of_gd hf
  refine va_sld hx hb hX hbl hbA hG.2 h422_122 d_Law_law_422 ?_
  refine lv_aload_n hx hb d_Law_law_423 rfl (lv_at hl 4 rfl) ?_
  refine lv_iload hx hb d_Law_law_424 (lv_at hl 0 rfl) ?_
  refine lv_iconst (v := 2) hx hb d_Law_law_426 (by decide) ?_
  refine lv_iadd hx hb d_Law_law_427 ?_
  obtain ⟨h428_123, hf⟩ := sm_of_gd hf
  refine va_sld hx hb hX hbl hbA hG.2 h428_123 d_Law_law_428 ?_
  refine lv_aload_n hx hb d_Law_law_429 rfl (lv_at hl 4 rfl) ?_
  refine lv_iload hx hb d_Law_law_430 (lv_at hl 0 rfl) ?_
  refine lv_iconst (v := 3) hx hb d_Law_law_432 (by decide) ?_
  refine lv_iadd hx hb d_Law_law_433 ?_
  obtain ⟨h434_124, hf⟩ := sm_of_gd hf
  refine va_sld hx hb hX hbl hbA hG.2 h434_124 d_Law_law_434 ?_
  refine lv_aload_n hx hb d_Law_law_435 rfl (lv_at hl 4 rfl) ?_
  refine lv_iload hx hb d_Law_law_436 (lv_at hl 0 rfl) ?_
  refine lv_iconst (v := 4) hx hb d_Law_law_438 (by decide) ?_
  refine lv_iadd hx hb d_Law_law_439 ?_
  obtain ⟨h440_125, hf⟩ := sm_of_gd hf
  refine va_sld hx hb hX hbl hbA hG.2 h440_125 d_Law_law_440 ?_
  refine lv_aload_n hx hb d_Law_law_441 rfl (lv_at hl 4 rfl) ?_
  refine lv_iload hx hb d_Law_law_442 (lv_at hl 0 rfl) ?_
  refine lv_iconst (v := 5) hx hb d_Law_law_444 (by decide) ?_
  refine lv_iadd hx hb d_Law_law_445 ?_
  obtain ⟨h446_126, hf⟩ := sm_of_gd hf
  refine va_sld hx hb hX hbl hbA hG.2 h446_126 d_Law_law_446 ?_
  refine lv_aload_n hx hb d_Law_law_447 rfl (lv_at hl 4 rfl) ?_
  refine lv_iload hx hb d_Law_law_448 (lv_at hl 0 rfl) ?_
  refine lv_bipush (v := 6) hx hb d_Law_law_450 (by decide) ?_
  refine lv_iadd hx hb d_Law_law_452 ?_
  obtain ⟨h453_127, hf⟩ := sm_of_gd hf
  refine va_sld hx hb hX hbl hbA hG.2 h453_127 d_Law_law_453 ?_
  refine lv_aload_n hx hb d_Law_law_454 rfl (lv_at hl 1 rfl) ?_
  obtain ⟨r455_129, M455_130, o455_131, hc455_128, hf⟩ := sm_of_b3 hf
  refine ca_Law_74 hC hK hG (c_Law_fix hfl hc455_128) hl.1 ⟨Nat.le_of_ble_eq_true rfl, Nat.le_of_ble_eq_true rfl⟩ hk1 (Nat.le_of_ble_eq_true rfl) d_Law_law_455 (fun H locs hG => ?_)
  refine lv_istore hx hb d_Law_law_458 hl (Nat.le_of_ble_eq_true rfl) rfl (fun ls hl => ?_)
  have hl : lv_has ls 7 [(5, .int r455_129), (4, .int w4), (3, .ref (sm_a v 90)), (2, .ref (sm_a v 68)), (1, .ref (sm_a v 0)), (0, .ref b)] := hl
  refine lv_aload_n hx hb d_Law_law_460 rfl (lv_at hl 3 rfl) ?_
  refine lv_aload_n hx hb d_Law_law_461 rfl (lv_at hl 5 rfl) ?_
  refine lv_iload hx hb d_Law_law_462 (lv_at hl 1 rfl) ?_
  refine lv_iconst (v := 1) hx hb d_Law_law_464 (by decide) ?_
  refine lv_iadd hx hb d_Law_law_465 ?_
  obtain ⟨h466_132, hf⟩ := sm_of_gd hf
  refine va_sld hx hb hX hbl hbA hG.2 h466_132 d_Law_law_466 ?_
  refine lv_aload_n hx hb d_Law_law_467 rfl (lv_at hl 5 rfl) ?_
  refine lv_iload hx hb d_Law_law_468 (lv_at hl 1 rfl) ?_
  refine lv_iconst (v := 2) hx hb d_Law_law_470 (by decide) ?_
  refine lv_iadd hx hb d_Law_law_471 ?_
  obtain ⟨h472_133, hf⟩ := sm_of_gd hf
  refine va_sld hx hb hX hbl hbA hG.2 h472_133 d_Law_law_472 ?_
  refine lv_aload_n hx hb d_Law_law_473 rfl (lv_at hl 5 rfl) ?_
  refine lv_iload hx hb d_Law_law_474 (lv_at hl 1 rfl) ?_
  refine lv_iconst (v := 3) hx hb d_Law_law_476 (by decide) ?_
  refine lv_iadd hx hb d_Law_law_477 ?_
  obtain ⟨h478_134, hf⟩ := sm_of_gd hf
  refine va_sld hx hb hX hbl hbA hG.2 h478_134 d_Law_law_478 ?_
  refine lv_aload_n hx hb d_Law_law_479 rfl (lv_at hl 5 rfl) ?_
  refine lv_iload hx hb d_Law_law_480 (lv_at hl 1 rfl) ?_
  refine lv_iconst (v := 4) hx hb d_Law_law_482 (by decide) ?_
  refine lv_iadd hx hb d_Law_law_483 ?_
  obtain ⟨h484_135, hf⟩ := sm_of_gd hf
  refine va_sld hx hb hX hbl hbA hG.2 h484_135 d_Law_law_484 ?_
  refine lv_aload_n hx hb d_Law_law_485 rfl (lv_at hl 5 rfl) ?_
  refine lv_iload hx hb d_Law_law_486 (lv_at hl 1 rfl) ?_
  refine lv_iconst (v := 5) hx hb d_Law_law_488 (by decide) ?_
  refine lv_iadd hx hb d_Law_law_489 ?_
  obtain ⟨h490_136, hf⟩ := sm_of_gd hf
  refine va_sld hx hb hX hbl hbA hG.2 h490_136 d_Law_law_490 ?_
  refine lv_aload_n hx hb d_Law_law_491 rfl (lv_at hl 5 rfl) ?_
  refine lv_iload hx hb d_Law_law_492 (lv_at hl 1 rfl) ?_
  refine lv_bipush (v := 6) hx hb d_Law_law_494 (by decide) ?_
  refine lv_iadd hx hb d_Law_law_496 ?_
  obtain ⟨h497_137, hf⟩ := sm_of_gd hf
  refine va_sld hx hb hX hbl hbA hG.2 h497_137 d_Law_law_497 ?_
  obtain ⟨r498_139, M498_140, hc498_138, hf⟩ := sm_of_b2 hf
  refine ca_Law_77 hC hK hG (c_Model_fix hc498_138) hl.1 ⟨Nat.le_of_ble_eq_true rfl, Nat.le_of_ble_eq_true rfl⟩ hk2 (Nat.le_of_ble_eq_true rfl) d_Law_law_498 (fun H locs hG => ?_)
  refine lv_istore hx hb d_Law_law_501 hl (Nat.le_of_ble_eq_true rfl) rfl (fun ls hl => ?_)
  have hl : lv_has ls 7 [(6, .int r498_139), (5, .int r455_129), (4, .int w4), (3, .ref (sm_a v 90)), (2, .ref (sm_a v 68)), (1, .ref (sm_a v 0)), (0, .ref b)] := hl
  refine lv_aload_n hx hb d_Law_law_503 rfl (lv_at hl 4 rfl) ?_
  obtain ⟨r504_143, hc504_142, hf⟩ := sm_of_b1 hf
  refine ca_Law_62 hC hK hG (c_Model_thrown hc504_142) hl.1 ⟨Nat.le_of_ble_eq_true rfl, Nat.le_of_ble_eq_true rfl⟩ hk2 (Nat.le_of_ble_eq_true rfl) d_Law_law_504 ?_
  refine lv_iload hx hb d_Law_law_507 (lv_at hl 1 rfl) ?_
  refine lv_icmp_eq hx hb d_Law_law_509 rfl (fun h509_146 => ?_) (fun h509_146 => ?_)
  · have hf := sm_t h509_146 hf
    refine lv_iload hx hb d_Law_law_514 (lv_at hl 1 rfl) ?_
    refine lv_if_ne hx hb d_Law_law_516 rfl (fun h516_147 => ?_) (fun h516_147 => ?_)
    · have hf := sm_f h516_147 hf
      refine lv_goto hx hb d_Law_law_531 rfl ?_
      refine lv_iinc (v := w4 + (7 : Int32)) (k := 2) hx hb d_Law_law_1083 hl rfl rfl (Nat.le_of_ble_eq_true rfl) rfl (fun ls hl => ?_)
      have hl : lv_has ls 7 [(4, .int (w4 + (7 : Int32))), (6, .int r498_139), (5, .int r455_129), (3, .ref (sm_a v 90)), (2, .ref (sm_a v 68)), (1, .ref (sm_a v 0)), (0, .ref b)] := hl
      refine lv_goto hx hb d_Law_law_1086 rfl ?_
      refine W.widen (k := K + 1) (n := S + 6) (by omega) (by omega) ?_
      exact ih _ _ _ (K + 1) (S + 6) _ _ ls (by omega) (by omega) hG (lv_sub hl [0, 3, 4, 5, 6] rfl) hf
    · have hf := sm_t h516_147 hf
      refine lv_aload_n hx hb d_Law_law_519 rfl (lv_at hl 3 rfl) ?_
      refine lv_iconst (v := 0) hx hb d_Law_law_520 (by decide) ?_
      refine sm_lald hC hK hG sm_in0 d_Law_law_521 ?_
      refine lv_iload hx hb d_Law_law_522 (lv_at hl 0 rfl) ?_
      refine lv_i2l hx hb d_Law_law_524 rfl ?_
      refine W.lcmp hx hb d_Law_law_525 ?_
      refine lv_if_eq hx hb d_Law_law_526 rfl (fun h526_148 => ?_) (fun h526_148 => ?_)
      · have hf := sm_t h526_148 hf
        refine lv_goto hx hb d_Law_law_531 rfl ?_
        refine lv_iinc (v := w4 + (7 : Int32)) (k := 2) hx hb d_Law_law_1083 hl rfl rfl (Nat.le_of_ble_eq_true rfl) rfl (fun ls hl => ?_)
        have hl : lv_has ls 7 [(4, .int (w4 + (7 : Int32))), (6, .int r498_139), (5, .int r455_129), (3, .ref (sm_a v 90)), (2, .ref (sm_a v 68)), (1, .ref (sm_a v 0)), (0, .ref b)] := hl
        refine lv_goto hx hb d_Law_law_1086 rfl ?_
        refine W.widen (k := K + 1) (n := S + 6) (by omega) (by omega) ?_
        exact ih _ _ _ (K + 1) (S + 6) _ _ ls (by omega) (by omega) hG (lv_sub hl [0, 3, 4, 5, 6] rfl) hf
      · have hf := sm_f h526_148 hf
        exact absurd (Option.some.inj hf) (by decide)
  · have hf := sm_f h509_146 hf
    exact absurd (Option.some.inj hf) (by decide)
set_option maxHeartbeats 4000000 in
set_option maxRecDepth 100000 in
theorem lc_4 {p : Program} {l : Launch} {e : Env} {s : State} {m : MethodId} {below : List Frame} {meth : Method} {c : Code} {v : sm_V} {w0 : Cond} {b L : Nat} {xs : Nat → Int32} (hfl : l.flags = pinnedFlags ++ [noTraceFlag]) (hC : CallFix p m c code 7 s #[Value.ref b] (w0 :: sm_AW) R_Law) (hr : meth.sig.returnType = ret) (hlk : meth.locks = false) (hK : sm_K v s) (hX : va_X b L xs s s.heap) (hbl : b < s.heap.size) (hbA : ¬ sm_A v b) (hv : v.2.1 = s.heap.size) (n : Nat) {rec : sm_M → sm_O → Int32 → Option Int32} (ih : ∀ (M : sm_M) (o : sm_O) (w4 : Int32) (K S : Nat) (H : Heap) (locs : List Loc) (ls : Array Slot), K + n ≤ 601024 → S + 6 * n ≤ 7293034 → sm_G v M o s H locs → lv_has ls 7 [(4, .int w4), (3, .ref (sm_a v 90)), (2, .ref (sm_a v 68)), (1, .ref (sm_a v 0)), (0, .ref b)] → rec M o w4 = some 1 → W p l e room_1 s m #[Value.ref b] below meth c H locs K S (lw_Z below #[Value.ref b] s) (F0 m 23 ls [])) (M : sm_M) (o : sm_O) (w4 : Int32) (K S : Nat) {H : Heap} {locs : List Loc} {ls : Array Slot} (hKn : K + (n + 1) ≤ 601024) (hSn : S + 6 * (n + 1) ≤ 7293034) (hG : sm_G v M o s H locs) (hl : lv_has ls 7 [(4, .int w4), (3, .ref (sm_a v 90)), (2, .ref (sm_a v 68)), (1, .ref (sm_a v 0)), (0, .ref b)]) (hf : lf_4 L xs rec M o w4 = some 1) : W p l e room_1 s m #[Value.ref b] below meth c H locs K S (lw_Z below #[Value.ref b] s) (F0 m 534 ls []) := by
  have hx := hC.1
  have hb := hC.2.1
  have hk0 : K + 0 ≤ room_1.cells ∧ S + 0 ≤ room_1.slots := ⟨by show K + 0 ≤ 601024; omega, by show S + 0 ≤ 7293034; omega⟩
  have hk1 : K + 1 ≤ room_1.cells ∧ S + 6 ≤ room_1.slots := ⟨by show K + 1 ≤ 601024; omega, by show S + 6 ≤ 7293034; omega⟩
  have hk2 : K + 1 + 0 ≤ room_1.cells ∧ S + 6 + 0 ≤ room_1.slots := ⟨by show K + 1 + 0 ≤ 601024; omega, by show S + 6 + 0 ≤ 7293034; omega⟩
  unfold lf_4 at hf
  refine lv_aload_n hx hb d_Law_law_534 rfl (lv_at hl 3 rfl) ?_
  refine lv_aload_n hx hb d_Law_law_535 rfl (lv_at hl 4 rfl) ?_
  refine lv_iload hx hb d_Law_law_536 (lv_at hl 0 rfl) ?_
  refine lv_iconst (v := 1) hx hb d_Law_law_538 (by decide) ?_
  refine lv_iadd hx hb d_Law_law_539 ?_
  obtain ⟨h540_150, hf⟩ := sm_of_gd hf
  refine va_sld hx hb hX hbl hbA hG.2 h540_150 d_Law_law_540 ?_
  refine lv_aload_n hx hb d_Law_law_541 rfl (lv_at hl 1 rfl) ?_
  obtain ⟨r542_152, M542_153, o542_154, hc542_151, hf⟩ := sm_of_b3 hf
  refine ca_Law_78 hC hK hG (c_Law_clear hfl hc542_151) hl.1 ⟨Nat.le_of_ble_eq_true rfl, Nat.le_of_ble_eq_true rfl⟩ hk1 (Nat.le_of_ble_eq_true rfl) d_Law_law_542 (fun H locs hG => ?_)
  refine lv_istore hx hb d_Law_law_545 hl (Nat.le_of_ble_eq_true rfl) rfl (fun ls hl => ?_)
  have hl : lv_has ls 7 [(5, .int r542_152), (4, .int w4), (3, .ref (sm_a v 90)), (2, .ref (sm_a v 68)), (1, .ref (sm_a v 0)), (0, .ref b)] := hl
  refine lv_aload_n hx hb d_Law_law_547 rfl (lv_at hl 3 rfl) ?_
  refine lv_aload_n hx hb d_Law_law_548 rfl (lv_at hl 5 rfl) ?_
  refine lv_iload hx hb d_Law_law_549 (lv_at hl 1 rfl) ?_
  refine lv_iconst (v := 1) hx hb d_Law_law_551 (by decide) ?_
  refine lv_iadd hx hb d_Law_law_552 ?_
  obtain ⟨h553_155, hf⟩ := sm_of_gd hf
  refine va_sld hx hb hX hbl hbA hG.2 h553_155 d_Law_law_553 ?_
  obtain ⟨r554_157, M554_158, hc554_156, hf⟩ := sm_of_b2 hf
  refine ca_Law_81 hC hK hG (c_Model_clear hc554_156) hl.1 ⟨Nat.le_of_ble_eq_true rfl, Nat.le_of_ble_eq_true rfl⟩ hk2 (Nat.le_of_ble_eq_true rfl) d_Law_law_554 (fun H locs hG => ?_)
  refine lv_istore hx hb d_Law_law_557 hl (Nat.le_of_ble_eq_true rfl) rfl (fun ls hl => ?_)
  have hl : lv_has ls 7 [(6, .int r554_157), (5, .int r542_152), (4, .int w4), (3, .ref (sm_a v 90)), (2, .ref (sm_a v 68)), (1, .ref (sm_a v 0)), (0, .ref b)] := hl
  refine lv_aload_n hx hb d_Law_law_559 rfl (lv_at hl 4 rfl) ?_
  obtain ⟨r560_161, hc560_160, hf⟩ := sm_of_b1 hf
  refine ca_Law_62 hC hK hG (c_Model_thrown hc560_160) hl.1 ⟨Nat.le_of_ble_eq_true rfl, Nat.le_of_ble_eq_true rfl⟩ hk2 (Nat.le_of_ble_eq_true rfl) d_Law_law_560 ?_
  refine lv_iload hx hb d_Law_law_563 (lv_at hl 1 rfl) ?_
  refine lv_icmp_eq hx hb d_Law_law_565 rfl (fun h565_164 => ?_) (fun h565_164 => ?_)
  · have hf := sm_t h565_164 hf
    refine lv_iload hx hb d_Law_law_570 (lv_at hl 1 rfl) ?_
    refine lv_if_ne hx hb d_Law_law_572 rfl (fun h572_165 => ?_) (fun h572_165 => ?_)
    · have hf := sm_f h572_165 hf
      refine lv_goto hx hb d_Law_law_594 rfl ?_
      refine lv_iinc (v := w4 + (7 : Int32)) (k := 2) hx hb d_Law_law_1083 hl rfl rfl (Nat.le_of_ble_eq_true rfl) rfl (fun ls hl => ?_)
      have hl : lv_has ls 7 [(4, .int (w4 + (7 : Int32))), (6, .int r554_157), (5, .int r542_152), (3, .ref (sm_a v 90)), (2, .ref (sm_a v 68)), (1, .ref (sm_a v 0)), (0, .ref b)] := hl
      refine lv_goto hx hb d_Law_law_1086 rfl ?_
      refine W.widen (k := K + 1) (n := S + 6) (by omega) (by omega) ?_
      exact ih _ _ _ (K + 1) (S + 6) _ _ ls (by omega) (by omega) hG (lv_sub hl [0, 3, 4, 5, 6] rfl) hf
    · have hf := sm_t h572_165 hf
      refine lv_aload_n hx hb d_Law_law_575 rfl (lv_at hl 3 rfl) ?_
      refine lv_iconst (v := 0) hx hb d_Law_law_576 (by decide) ?_
      refine sm_lald hC hK hG sm_in0 d_Law_law_577 ?_
      refine lv_iload hx hb d_Law_law_578 (lv_at hl 0 rfl) ?_
      refine lv_if_eq hx hb d_Law_law_580 rfl (fun h580_166 => ?_) (fun h580_166 => ?_)
      · have hf := sm_t h580_166 hf
        refine lv_lconst (v := 0) hx hb d_Law_law_587 (by decide) ?_
        refine W.lcmp hx hb d_Law_law_588 ?_
        refine lv_if_eq hx hb d_Law_law_589 rfl (fun h589_167 => ?_) (fun h589_167 => ?_)
        · have hf := sm_t h589_167 hf
          refine lv_goto hx hb d_Law_law_594 rfl ?_
          refine lv_iinc (v := w4 + (7 : Int32)) (k := 2) hx hb d_Law_law_1083 hl rfl rfl (Nat.le_of_ble_eq_true rfl) rfl (fun ls hl => ?_)
          have hl : lv_has ls 7 [(4, .int (w4 + (7 : Int32))), (6, .int r554_157), (5, .int r542_152), (3, .ref (sm_a v 90)), (2, .ref (sm_a v 68)), (1, .ref (sm_a v 0)), (0, .ref b)] := hl
          refine lv_goto hx hb d_Law_law_1086 rfl ?_
          refine W.widen (k := K + 1) (n := S + 6) (by omega) (by omega) ?_
          exact ih _ _ _ (K + 1) (S + 6) _ _ ls (by omega) (by omega) hG (lv_sub hl [0, 3, 4, 5, 6] rfl) hf
        · have hf := sm_f h589_167 hf
          exact absurd (Option.some.inj hf) (by decide)
      · have hf := sm_f h580_166 hf
        refine lv_lconst (v := 1) hx hb d_Law_law_583 (by decide) ?_
        refine lv_goto hx hb d_Law_law_584 rfl ?_
        refine W.lcmp hx hb d_Law_law_588 ?_
        refine lv_if_eq hx hb d_Law_law_589 rfl (fun h589_168 => ?_) (fun h589_168 => ?_)
        · have hf := sm_t h589_168 hf
          refine lv_goto hx hb d_Law_law_594 rfl ?_
          refine lv_iinc (v := w4 + (7 : Int32)) (k := 2) hx hb d_Law_law_1083 hl rfl rfl (Nat.le_of_ble_eq_true rfl) rfl (fun ls hl => ?_)
          have hl : lv_has ls 7 [(4, .int (w4 + (7 : Int32))), (6, .int r554_157), (5, .int r542_152), (3, .ref (sm_a v 90)), (2, .ref (sm_a v 68)), (1, .ref (sm_a v 0)), (0, .ref b)] := hl
          refine lv_goto hx hb d_Law_law_1086 rfl ?_
          refine W.widen (k := K + 1) (n := S + 6) (by omega) (by omega) ?_
          exact ih _ _ _ (K + 1) (S + 6) _ _ ls (by omega) (by omega) hG (lv_sub hl [0, 3, 4, 5, 6] rfl) hf
        · have hf := sm_f h589_168 hf
          exact absurd (Option.some.inj hf) (by decide)
  · have hf := sm_f h565_164 hf
    exact absurd (Option.some.inj hf) (by decide)
set_option maxHeartbeats 4000000 in
set_option maxRecDepth 100000 in
theorem lc_5 {p : Program} {l : Launch} {e : Env} {s : State} {m : MethodId} {below : List Frame} {meth : Method} {c : Code} {v : sm_V} {w0 : Cond} {b L : Nat} {xs : Nat → Int32} (hfl : l.flags = pinnedFlags ++ [noTraceFlag]) (hC : CallFix p m c code 7 s #[Value.ref b] (w0 :: sm_AW) R_Law) (hr : meth.sig.returnType = ret) (hlk : meth.locks = false) (hK : sm_K v s) (hX : va_X b L xs s s.heap) (hbl : b < s.heap.size) (hbA : ¬ sm_A v b) (hv : v.2.1 = s.heap.size) (n : Nat) {rec : sm_M → sm_O → Int32 → Option Int32} (ih : ∀ (M : sm_M) (o : sm_O) (w4 : Int32) (K S : Nat) (H : Heap) (locs : List Loc) (ls : Array Slot), K + n ≤ 601024 → S + 6 * n ≤ 7293034 → sm_G v M o s H locs → lv_has ls 7 [(4, .int w4), (3, .ref (sm_a v 90)), (2, .ref (sm_a v 68)), (1, .ref (sm_a v 0)), (0, .ref b)] → rec M o w4 = some 1 → W p l e room_1 s m #[Value.ref b] below meth c H locs K S (lw_Z below #[Value.ref b] s) (F0 m 23 ls [])) (M : sm_M) (o : sm_O) (w4 : Int32) (K S : Nat) {H : Heap} {locs : List Loc} {ls : Array Slot} (hKn : K + (n + 1) ≤ 601024) (hSn : S + 6 * (n + 1) ≤ 7293034) (hG : sm_G v M o s H locs) (hl : lv_has ls 7 [(4, .int w4), (3, .ref (sm_a v 90)), (2, .ref (sm_a v 68)), (1, .ref (sm_a v 0)), (0, .ref b)]) (hf : lf_5 L xs rec M o w4 = some 1) : W p l e room_1 s m #[Value.ref b] below meth c H locs K S (lw_Z below #[Value.ref b] s) (F0 m 597 ls []) := by
  have hx := hC.1
  have hb := hC.2.1
  have hk0 : K + 0 ≤ room_1.cells ∧ S + 0 ≤ room_1.slots := ⟨by show K + 0 ≤ 601024; omega, by show S + 0 ≤ 7293034; omega⟩
  have hk1 : K + 1 ≤ room_1.cells ∧ S + 6 ≤ room_1.slots := ⟨by show K + 1 ≤ 601024; omega, by show S + 6 ≤ 7293034; omega⟩
  have hk2 : K + 1 + 0 ≤ room_1.cells ∧ S + 6 + 0 ≤ room_1.slots := ⟨by show K + 1 + 0 ≤ 601024; omega, by show S + 6 + 0 ≤ 7293034; omega⟩
  unfold lf_5 at hf
  refine lv_aload_n hx hb d_Law_law_597 rfl (lv_at hl 3 rfl) ?_
  refine lv_aload_n hx hb d_Law_law_598 rfl (lv_at hl 4 rfl) ?_
  refine lv_iload hx hb d_Law_law_599 (lv_at hl 0 rfl) ?_
  refine lv_iconst (v := 1) hx hb d_Law_law_601 (by decide) ?_
  refine lv_iadd hx hb d_Law_law_602 ?_
  obtain ⟨h603_170, hf⟩ := sm_of_gd hf
  refine va_sld hx hb hX hbl hbA hG.2 h603_170 d_Law_law_603 ?_
  refine lv_aload_n hx hb d_Law_law_604 rfl (lv_at hl 4 rfl) ?_
  refine lv_iload hx hb d_Law_law_605 (lv_at hl 0 rfl) ?_
  refine lv_iconst (v := 2) hx hb d_Law_law_607 (by decide) ?_
  refine lv_iadd hx hb d_Law_law_608 ?_
  obtain ⟨h609_171, hf⟩ := sm_of_gd hf
  refine va_sld hx hb hX hbl hbA hG.2 h609_171 d_Law_law_609 ?_
  refine lv_aload_n hx hb d_Law_law_610 rfl (lv_at hl 1 rfl) ?_
  obtain ⟨r611_173, M611_174, o611_175, hc611_172, hf⟩ := sm_of_b3 hf
  refine ca_Law_82 hC hK hG (c_Law_link hfl hc611_172) hl.1 ⟨Nat.le_of_ble_eq_true rfl, Nat.le_of_ble_eq_true rfl⟩ hk1 (Nat.le_of_ble_eq_true rfl) d_Law_law_611 (fun H locs hG => ?_)
  refine lv_istore hx hb d_Law_law_614 hl (Nat.le_of_ble_eq_true rfl) rfl (fun ls hl => ?_)
  have hl : lv_has ls 7 [(5, .int r611_173), (4, .int w4), (3, .ref (sm_a v 90)), (2, .ref (sm_a v 68)), (1, .ref (sm_a v 0)), (0, .ref b)] := hl
  refine lv_aload_n hx hb d_Law_law_616 rfl (lv_at hl 3 rfl) ?_
  refine lv_aload_n hx hb d_Law_law_617 rfl (lv_at hl 5 rfl) ?_
  refine lv_iload hx hb d_Law_law_618 (lv_at hl 1 rfl) ?_
  refine lv_iconst (v := 1) hx hb d_Law_law_620 (by decide) ?_
  refine lv_iadd hx hb d_Law_law_621 ?_
  obtain ⟨h622_176, hf⟩ := sm_of_gd hf
  refine va_sld hx hb hX hbl hbA hG.2 h622_176 d_Law_law_622 ?_
  refine lv_aload_n hx hb d_Law_law_623 rfl (lv_at hl 5 rfl) ?_
  refine lv_iload hx hb d_Law_law_624 (lv_at hl 1 rfl) ?_
  refine lv_iconst (v := 2) hx hb d_Law_law_626 (by decide) ?_
  refine lv_iadd hx hb d_Law_law_627 ?_
  obtain ⟨h628_177, hf⟩ := sm_of_gd hf
  refine va_sld hx hb hX hbl hbA hG.2 h628_177 d_Law_law_628 ?_
  obtain ⟨r629_179, M629_180, hc629_178, hf⟩ := sm_of_b2 hf
  refine ca_Law_84 hC hK hG (c_Model_link hc629_178) hl.1 ⟨Nat.le_of_ble_eq_true rfl, Nat.le_of_ble_eq_true rfl⟩ hk2 (Nat.le_of_ble_eq_true rfl) d_Law_law_629 (fun H locs hG => ?_)
  refine lv_istore hx hb d_Law_law_632 hl (Nat.le_of_ble_eq_true rfl) rfl (fun ls hl => ?_)
  have hl : lv_has ls 7 [(6, .int r629_179), (5, .int r611_173), (4, .int w4), (3, .ref (sm_a v 90)), (2, .ref (sm_a v 68)), (1, .ref (sm_a v 0)), (0, .ref b)] := hl
  refine lv_aload_n hx hb d_Law_law_634 rfl (lv_at hl 4 rfl) ?_
  obtain ⟨r635_183, hc635_182, hf⟩ := sm_of_b1 hf
  refine ca_Law_62 hC hK hG (c_Model_thrown hc635_182) hl.1 ⟨Nat.le_of_ble_eq_true rfl, Nat.le_of_ble_eq_true rfl⟩ hk2 (Nat.le_of_ble_eq_true rfl) d_Law_law_635 ?_
  refine lv_iload hx hb d_Law_law_638 (lv_at hl 1 rfl) ?_
  refine lv_icmp_eq hx hb d_Law_law_640 rfl (fun h640_186 => ?_) (fun h640_186 => ?_)
  · have hf := sm_t h640_186 hf
    refine lv_iload hx hb d_Law_law_645 (lv_at hl 1 rfl) ?_
    refine lv_if_ne hx hb d_Law_law_647 rfl (fun h647_187 => ?_) (fun h647_187 => ?_)
    · have hf := sm_f h647_187 hf
      refine lv_goto hx hb d_Law_law_662 rfl ?_
      refine lv_iinc (v := w4 + (7 : Int32)) (k := 2) hx hb d_Law_law_1083 hl rfl rfl (Nat.le_of_ble_eq_true rfl) rfl (fun ls hl => ?_)
      have hl : lv_has ls 7 [(4, .int (w4 + (7 : Int32))), (6, .int r629_179), (5, .int r611_173), (3, .ref (sm_a v 90)), (2, .ref (sm_a v 68)), (1, .ref (sm_a v 0)), (0, .ref b)] := hl
      refine lv_goto hx hb d_Law_law_1086 rfl ?_
      refine W.widen (k := K + 1) (n := S + 6) (by omega) (by omega) ?_
      exact ih _ _ _ (K + 1) (S + 6) _ _ ls (by omega) (by omega) hG (lv_sub hl [0, 3, 4, 5, 6] rfl) hf
    · have hf := sm_t h647_187 hf
      refine lv_aload_n hx hb d_Law_law_650 rfl (lv_at hl 3 rfl) ?_
      refine lv_iconst (v := 0) hx hb d_Law_law_651 (by decide) ?_
      refine sm_lald hC hK hG sm_in0 d_Law_law_652 ?_
      refine lv_iload hx hb d_Law_law_653 (lv_at hl 0 rfl) ?_
      refine lv_i2l hx hb d_Law_law_655 rfl ?_
      refine W.lcmp hx hb d_Law_law_656 ?_
      refine lv_if_eq hx hb d_Law_law_657 rfl (fun h657_188 => ?_) (fun h657_188 => ?_)
      · have hf := sm_t h657_188 hf
        refine lv_goto hx hb d_Law_law_662 rfl ?_
        refine lv_iinc (v := w4 + (7 : Int32)) (k := 2) hx hb d_Law_law_1083 hl rfl rfl (Nat.le_of_ble_eq_true rfl) rfl (fun ls hl => ?_)
        have hl : lv_has ls 7 [(4, .int (w4 + (7 : Int32))), (6, .int r629_179), (5, .int r611_173), (3, .ref (sm_a v 90)), (2, .ref (sm_a v 68)), (1, .ref (sm_a v 0)), (0, .ref b)] := hl
        refine lv_goto hx hb d_Law_law_1086 rfl ?_
        refine W.widen (k := K + 1) (n := S + 6) (by omega) (by omega) ?_
        exact ih _ _ _ (K + 1) (S + 6) _ _ ls (by omega) (by omega) hG (lv_sub hl [0, 3, 4, 5, 6] rfl) hf
      · have hf := sm_f h657_188 hf
        exact absurd (Option.some.inj hf) (by decide)
  · have hf := sm_f h640_186 hf
    exact absurd (Option.some.inj hf) (by decide)
set_option maxHeartbeats 4000000 in
set_option maxRecDepth 100000 in
theorem lc_6 {p : Program} {l : Launch} {e : Env} {s : State} {m : MethodId} {below : List Frame} {meth : Method} {c : Code} {v : sm_V} {w0 : Cond} {b L : Nat} {xs : Nat → Int32} (hfl : l.flags = pinnedFlags ++ [noTraceFlag]) (hC : CallFix p m c code 7 s #[Value.ref b] (w0 :: sm_AW) R_Law) (hr : meth.sig.returnType = ret) (hlk : meth.locks = false) (hK : sm_K v s) (hX : va_X b L xs s s.heap) (hbl : b < s.heap.size) (hbA : ¬ sm_A v b) (hv : v.2.1 = s.heap.size) (n : Nat) {rec : sm_M → sm_O → Int32 → Option Int32} (ih : ∀ (M : sm_M) (o : sm_O) (w4 : Int32) (K S : Nat) (H : Heap) (locs : List Loc) (ls : Array Slot), K + n ≤ 601024 → S + 6 * n ≤ 7293034 → sm_G v M o s H locs → lv_has ls 7 [(4, .int w4), (3, .ref (sm_a v 90)), (2, .ref (sm_a v 68)), (1, .ref (sm_a v 0)), (0, .ref b)] → rec M o w4 = some 1 → W p l e room_1 s m #[Value.ref b] below meth c H locs K S (lw_Z below #[Value.ref b] s) (F0 m 23 ls [])) (M : sm_M) (o : sm_O) (w4 : Int32) (K S : Nat) {H : Heap} {locs : List Loc} {ls : Array Slot} (hKn : K + (n + 1) ≤ 601024) (hSn : S + 6 * (n + 1) ≤ 7293034) (hG : sm_G v M o s H locs) (hl : lv_has ls 7 [(4, .int w4), (3, .ref (sm_a v 90)), (2, .ref (sm_a v 68)), (1, .ref (sm_a v 0)), (0, .ref b)]) (hf : lf_6 L xs rec M o w4 = some 1) : W p l e room_1 s m #[Value.ref b] below meth c H locs K S (lw_Z below #[Value.ref b] s) (F0 m 665 ls []) := by
  have hx := hC.1
  have hb := hC.2.1
  have hk0 : K + 0 ≤ room_1.cells ∧ S + 0 ≤ room_1.slots := ⟨by show K + 0 ≤ 601024; omega, by show S + 0 ≤ 7293034; omega⟩
  have hk1 : K + 1 ≤ room_1.cells ∧ S + 6 ≤ room_1.slots := ⟨by show K + 1 ≤ 601024; omega, by show S + 6 ≤ 7293034; omega⟩
  have hk2 : K + 1 + 0 ≤ room_1.cells ∧ S + 6 + 0 ≤ room_1.slots := ⟨by show K + 1 + 0 ≤ 601024; omega, by show S + 6 + 0 ≤ 7293034; omega⟩
  unfold lf_6 at hf
  refine lv_aload_n hx hb d_Law_law_665 rfl (lv_at hl 3 rfl) ?_
  refine lv_aload_n hx hb d_Law_law_666 rfl (lv_at hl 4 rfl) ?_
  refine lv_iload hx hb d_Law_law_667 (lv_at hl 0 rfl) ?_
  refine lv_iconst (v := 1) hx hb d_Law_law_669 (by decide) ?_
  refine lv_iadd hx hb d_Law_law_670 ?_
  obtain ⟨h671_190, hf⟩ := sm_of_gd hf
  refine va_sld hx hb hX hbl hbA hG.2 h671_190 d_Law_law_671 ?_
  obtain ⟨r672_192, hc672_191, hf⟩ := sm_of_b1 hf
  refine ca_Law_85 hC hK hG (c_Mill_image hc672_191) hl.1 ⟨Nat.le_of_ble_eq_true rfl, Nat.le_of_ble_eq_true rfl⟩ hk0 (Nat.le_of_ble_eq_true rfl) d_Law_law_672 ?_
  refine lv_aload_n hx hb d_Law_law_675 rfl (lv_at hl 2 rfl) ?_
  refine lv_aload_n hx hb d_Law_law_676 rfl (lv_at hl 4 rfl) ?_
  refine lv_iload hx hb d_Law_law_677 (lv_at hl 0 rfl) ?_
  refine lv_iconst (v := 1) hx hb d_Law_law_679 (by decide) ?_
  refine lv_iadd hx hb d_Law_law_680 ?_
  obtain ⟨h681_195, hf⟩ := sm_of_gd hf
  refine va_sld hx hb hX hbl hbA hG.2 h681_195 d_Law_law_681 ?_
  obtain ⟨r682_197, M682_198, hc682_196, hf⟩ := sm_of_b2 hf
  refine ca_Law_88 hC hK hG (c_Model_image hc682_196) hl.1 ⟨Nat.le_of_ble_eq_true rfl, Nat.le_of_ble_eq_true rfl⟩ hk0 (Nat.le_of_ble_eq_true rfl) d_Law_law_682 (fun H locs hG => ?_)
  refine lv_icmp_eq hx hb d_Law_law_685 rfl (fun h685_200 => ?_) (fun h685_200 => ?_)
  · have hf := sm_t h685_200 hf
    refine lv_iinc (v := w4 + (7 : Int32)) (k := 0) hx hb d_Law_law_1083 hl rfl rfl (Nat.le_of_ble_eq_true rfl) rfl (fun ls hl => ?_)
    have hl : lv_has ls 7 [(4, .int (w4 + (7 : Int32))), (3, .ref (sm_a v 90)), (2, .ref (sm_a v 68)), (1, .ref (sm_a v 0)), (0, .ref b)] := hl
    refine lv_goto hx hb d_Law_law_1086 rfl ?_
    refine W.widen (k := K + 1) (n := S + 6) (by omega) (by omega) ?_
    exact ih _ _ _ (K + 1) (S + 6) _ _ ls (by omega) (by omega) hG (lv_sub hl [0, 1, 2, 3, 4] rfl) hf
  · have hf := sm_f h685_200 hf
    exact absurd (Option.some.inj hf) (by decide)
set_option maxHeartbeats 4000000 in
set_option maxRecDepth 100000 in
theorem lc_7 {p : Program} {l : Launch} {e : Env} {s : State} {m : MethodId} {below : List Frame} {meth : Method} {c : Code} {v : sm_V} {w0 : Cond} {b L : Nat} {xs : Nat → Int32} (hfl : l.flags = pinnedFlags ++ [noTraceFlag]) (hC : CallFix p m c code 7 s #[Value.ref b] (w0 :: sm_AW) R_Law) (hr : meth.sig.returnType = ret) (hlk : meth.locks = false) (hK : sm_K v s) (hX : va_X b L xs s s.heap) (hbl : b < s.heap.size) (hbA : ¬ sm_A v b) (hv : v.2.1 = s.heap.size) (n : Nat) {rec : sm_M → sm_O → Int32 → Option Int32} (ih : ∀ (M : sm_M) (o : sm_O) (w4 : Int32) (K S : Nat) (H : Heap) (locs : List Loc) (ls : Array Slot), K + n ≤ 601024 → S + 6 * n ≤ 7293034 → sm_G v M o s H locs → lv_has ls 7 [(4, .int w4), (3, .ref (sm_a v 90)), (2, .ref (sm_a v 68)), (1, .ref (sm_a v 0)), (0, .ref b)] → rec M o w4 = some 1 → W p l e room_1 s m #[Value.ref b] below meth c H locs K S (lw_Z below #[Value.ref b] s) (F0 m 23 ls [])) (M : sm_M) (o : sm_O) (w4 : Int32) (K S : Nat) {H : Heap} {locs : List Loc} {ls : Array Slot} (hKn : K + (n + 1) ≤ 601024) (hSn : S + 6 * (n + 1) ≤ 7293034) (hG : sm_G v M o s H locs) (hl : lv_has ls 7 [(4, .int w4), (3, .ref (sm_a v 90)), (2, .ref (sm_a v 68)), (1, .ref (sm_a v 0)), (0, .ref b)]) (hf : lf_7 L xs rec M o w4 = some 1) : W p l e room_1 s m #[Value.ref b] below meth c H locs K S (lw_Z below #[Value.ref b] s) (F0 m 690 ls []) := by
  have hx := hC.1
  have hb := hC.2.1
  have hk0 : K + 0 ≤ room_1.cells ∧ S + 0 ≤ room_1.slots := ⟨by show K + 0 ≤ 601024; omega, by show S + 0 ≤ 7293034; omega⟩
  have hk1 : K + 1 ≤ room_1.cells ∧ S + 6 ≤ room_1.slots := ⟨by show K + 1 ≤ 601024; omega, by show S + 6 ≤ 7293034; omega⟩
  have hk2 : K + 1 + 0 ≤ room_1.cells ∧ S + 6 + 0 ≤ room_1.slots := ⟨by show K + 1 + 0 ≤ 601024; omega, by show S + 6 + 0 ≤ 7293034; omega⟩
  unfold lf_7 at hf
  refine lv_aload_n hx hb d_Law_law_690 rfl (lv_at hl 3 rfl) ?_
  refine lv_aload_n hx hb d_Law_law_691 rfl (lv_at hl 4 rfl) ?_
  refine lv_iload hx hb d_Law_law_692 (lv_at hl 0 rfl) ?_
  refine lv_iconst (v := 1) hx hb d_Law_law_694 (by decide) ?_
  refine lv_iadd hx hb d_Law_law_695 ?_
  obtain ⟨h696_202, hf⟩ := sm_of_gd hf
  refine va_sld hx hb hX hbl hbA hG.2 h696_202 d_Law_law_696 ?_
  refine lv_aload_n hx hb d_Law_law_697 rfl (lv_at hl 4 rfl) ?_
  refine lv_iload hx hb d_Law_law_698 (lv_at hl 0 rfl) ?_
  refine lv_iconst (v := 2) hx hb d_Law_law_700 (by decide) ?_
  refine lv_iadd hx hb d_Law_law_701 ?_
  obtain ⟨h702_203, hf⟩ := sm_of_gd hf
  refine va_sld hx hb hX hbl hbA hG.2 h702_203 d_Law_law_702 ?_
  refine lv_aload_n hx hb d_Law_law_703 rfl (lv_at hl 1 rfl) ?_
  obtain ⟨r704_205, M704_206, o704_207, hc704_204, hf⟩ := sm_of_b3 hf
  refine ca_Law_89 hC hK hG (c_Law_alter hfl hc704_204) hl.1 ⟨Nat.le_of_ble_eq_true rfl, Nat.le_of_ble_eq_true rfl⟩ hk1 (Nat.le_of_ble_eq_true rfl) d_Law_law_704 (fun H locs hG => ?_)
  refine lv_istore hx hb d_Law_law_707 hl (Nat.le_of_ble_eq_true rfl) rfl (fun ls hl => ?_)
  have hl : lv_has ls 7 [(5, .int r704_205), (4, .int w4), (3, .ref (sm_a v 90)), (2, .ref (sm_a v 68)), (1, .ref (sm_a v 0)), (0, .ref b)] := hl
  refine lv_aload_n hx hb d_Law_law_709 rfl (lv_at hl 3 rfl) ?_
  refine lv_aload_n hx hb d_Law_law_710 rfl (lv_at hl 5 rfl) ?_
  refine lv_iload hx hb d_Law_law_711 (lv_at hl 1 rfl) ?_
  refine lv_iconst (v := 1) hx hb d_Law_law_713 (by decide) ?_
  refine lv_iadd hx hb d_Law_law_714 ?_
  obtain ⟨h715_208, hf⟩ := sm_of_gd hf
  refine va_sld hx hb hX hbl hbA hG.2 h715_208 d_Law_law_715 ?_
  refine lv_aload_n hx hb d_Law_law_716 rfl (lv_at hl 5 rfl) ?_
  refine lv_iload hx hb d_Law_law_717 (lv_at hl 1 rfl) ?_
  refine lv_iconst (v := 2) hx hb d_Law_law_719 (by decide) ?_
  refine lv_iadd hx hb d_Law_law_720 ?_
  obtain ⟨h721_209, hf⟩ := sm_of_gd hf
  refine va_sld hx hb hX hbl hbA hG.2 h721_209 d_Law_law_721 ?_
  obtain ⟨r722_211, M722_212, hc722_210, hf⟩ := sm_of_b2 hf
  refine ca_Law_91 hC hK hG (c_Model_alter hc722_210) hl.1 ⟨Nat.le_of_ble_eq_true rfl, Nat.le_of_ble_eq_true rfl⟩ hk2 (Nat.le_of_ble_eq_true rfl) d_Law_law_722 (fun H locs hG => ?_)
  refine lv_istore hx hb d_Law_law_725 hl (Nat.le_of_ble_eq_true rfl) rfl (fun ls hl => ?_)
  have hl : lv_has ls 7 [(6, .int r722_211), (5, .int r704_205), (4, .int w4), (3, .ref (sm_a v 90)), (2, .ref (sm_a v 68)), (1, .ref (sm_a v 0)), (0, .ref b)] := hl
  refine lv_aload_n hx hb d_Law_law_727 rfl (lv_at hl 4 rfl) ?_
  obtain ⟨r728_215, hc728_214, hf⟩ := sm_of_b1 hf
  refine ca_Law_62 hC hK hG (c_Model_thrown hc728_214) hl.1 ⟨Nat.le_of_ble_eq_true rfl, Nat.le_of_ble_eq_true rfl⟩ hk2 (Nat.le_of_ble_eq_true rfl) d_Law_law_728 ?_
  refine lv_iload hx hb d_Law_law_731 (lv_at hl 1 rfl) ?_
  refine lv_icmp_eq hx hb d_Law_law_733 rfl (fun h733_218 => ?_) (fun h733_218 => ?_)
  · have hf := sm_t h733_218 hf
    refine lv_iload hx hb d_Law_law_738 (lv_at hl 1 rfl) ?_
    refine lv_if_ne hx hb d_Law_law_740 rfl (fun h740_219 => ?_) (fun h740_219 => ?_)
    · have hf := sm_f h740_219 hf
      refine lv_goto hx hb d_Law_law_762 rfl ?_
      refine lv_iinc (v := w4 + (7 : Int32)) (k := 2) hx hb d_Law_law_1083 hl rfl rfl (Nat.le_of_ble_eq_true rfl) rfl (fun ls hl => ?_)
      have hl : lv_has ls 7 [(4, .int (w4 + (7 : Int32))), (6, .int r722_211), (5, .int r704_205), (3, .ref (sm_a v 90)), (2, .ref (sm_a v 68)), (1, .ref (sm_a v 0)), (0, .ref b)] := hl
      refine lv_goto hx hb d_Law_law_1086 rfl ?_
      refine W.widen (k := K + 1) (n := S + 6) (by omega) (by omega) ?_
      exact ih _ _ _ (K + 1) (S + 6) _ _ ls (by omega) (by omega) hG (lv_sub hl [0, 3, 4, 5, 6] rfl) hf
    · have hf := sm_t h740_219 hf
      refine lv_aload_n hx hb d_Law_law_743 rfl (lv_at hl 3 rfl) ?_
      refine lv_iconst (v := 0) hx hb d_Law_law_744 (by decide) ?_
      refine sm_lald hC hK hG sm_in0 d_Law_law_745 ?_
      refine lv_iload hx hb d_Law_law_746 (lv_at hl 0 rfl) ?_
      refine lv_if_eq hx hb d_Law_law_748 rfl (fun h748_220 => ?_) (fun h748_220 => ?_)
      · have hf := sm_t h748_220 hf
        refine lv_lconst (v := 0) hx hb d_Law_law_755 (by decide) ?_
        refine W.lcmp hx hb d_Law_law_756 ?_
        refine lv_if_eq hx hb d_Law_law_757 rfl (fun h757_221 => ?_) (fun h757_221 => ?_)
        · have hf := sm_t h757_221 hf
          refine lv_goto hx hb d_Law_law_762 rfl ?_
          refine lv_iinc (v := w4 + (7 : Int32)) (k := 2) hx hb d_Law_law_1083 hl rfl rfl (Nat.le_of_ble_eq_true rfl) rfl (fun ls hl => ?_)
          have hl : lv_has ls 7 [(4, .int (w4 + (7 : Int32))), (6, .int r722_211), (5, .int r704_205), (3, .ref (sm_a v 90)), (2, .ref (sm_a v 68)), (1, .ref (sm_a v 0)), (0, .ref b)] := hl
          refine lv_goto hx hb d_Law_law_1086 rfl ?_
          refine W.widen (k := K + 1) (n := S + 6) (by omega) (by omega) ?_
          exact ih _ _ _ (K + 1) (S + 6) _ _ ls (by omega) (by omega) hG (lv_sub hl [0, 3, 4, 5, 6] rfl) hf
        · have hf := sm_f h757_221 hf
          exact absurd (Option.some.inj hf) (by decide)
      · have hf := sm_f h748_220 hf
        refine lv_lconst (v := 1) hx hb d_Law_law_751 (by decide) ?_
        refine lv_goto hx hb d_Law_law_752 rfl ?_
        refine W.lcmp hx hb d_Law_law_756 ?_
        refine lv_if_eq hx hb d_Law_law_757 rfl (fun h757_222 => ?_) (fun h757_222 => ?_)
        · have hf := sm_t h757_222 hf
          refine lv_goto hx hb d_Law_law_762 rfl ?_
          refine lv_iinc (v := w4 + (7 : Int32)) (k := 2) hx hb d_Law_law_1083 hl rfl rfl (Nat.le_of_ble_eq_true rfl) rfl (fun ls hl => ?_)
          have hl : lv_has ls 7 [(4, .int (w4 + (7 : Int32))), (6, .int r722_211), (5, .int r704_205), (3, .ref (sm_a v 90)), (2, .ref (sm_a v 68)), (1, .ref (sm_a v 0)), (0, .ref b)] := hl
          refine lv_goto hx hb d_Law_law_1086 rfl ?_
          refine W.widen (k := K + 1) (n := S + 6) (by omega) (by omega) ?_
          exact ih _ _ _ (K + 1) (S + 6) _ _ ls (by omega) (by omega) hG (lv_sub hl [0, 3, 4, 5, 6] rfl) hf
        · have hf := sm_f h757_222 hf
          exact absurd (Option.some.inj hf) (by decide)
  · have hf := sm_f h733_218 hf
    exact absurd (Option.some.inj hf) (by decide)
set_option maxHeartbeats 4000000 in
set_option maxRecDepth 100000 in
theorem lc_8 {p : Program} {l : Launch} {e : Env} {s : State} {m : MethodId} {below : List Frame} {meth : Method} {c : Code} {v : sm_V} {w0 : Cond} {b L : Nat} {xs : Nat → Int32} (hfl : l.flags = pinnedFlags ++ [noTraceFlag]) (hC : CallFix p m c code 7 s #[Value.ref b] (w0 :: sm_AW) R_Law) (hr : meth.sig.returnType = ret) (hlk : meth.locks = false) (hK : sm_K v s) (hX : va_X b L xs s s.heap) (hbl : b < s.heap.size) (hbA : ¬ sm_A v b) (hv : v.2.1 = s.heap.size) (n : Nat) {rec : sm_M → sm_O → Int32 → Option Int32} (ih : ∀ (M : sm_M) (o : sm_O) (w4 : Int32) (K S : Nat) (H : Heap) (locs : List Loc) (ls : Array Slot), K + n ≤ 601024 → S + 6 * n ≤ 7293034 → sm_G v M o s H locs → lv_has ls 7 [(4, .int w4), (3, .ref (sm_a v 90)), (2, .ref (sm_a v 68)), (1, .ref (sm_a v 0)), (0, .ref b)] → rec M o w4 = some 1 → W p l e room_1 s m #[Value.ref b] below meth c H locs K S (lw_Z below #[Value.ref b] s) (F0 m 23 ls [])) (M : sm_M) (o : sm_O) (w4 : Int32) (K S : Nat) {H : Heap} {locs : List Loc} {ls : Array Slot} (hKn : K + (n + 1) ≤ 601024) (hSn : S + 6 * (n + 1) ≤ 7293034) (hG : sm_G v M o s H locs) (hl : lv_has ls 7 [(4, .int w4), (3, .ref (sm_a v 90)), (2, .ref (sm_a v 68)), (1, .ref (sm_a v 0)), (0, .ref b)]) (hf : lf_8 L xs rec M o w4 = some 1) : W p l e room_1 s m #[Value.ref b] below meth c H locs K S (lw_Z below #[Value.ref b] s) (F0 m 765 ls []) := by
  have hx := hC.1
  have hb := hC.2.1
  have hk0 : K + 0 ≤ room_1.cells ∧ S + 0 ≤ room_1.slots := ⟨by show K + 0 ≤ 601024; omega, by show S + 0 ≤ 7293034; omega⟩
  have hk1 : K + 1 ≤ room_1.cells ∧ S + 6 ≤ room_1.slots := ⟨by show K + 1 ≤ 601024; omega, by show S + 6 ≤ 7293034; omega⟩
  have hk2 : K + 1 + 0 ≤ room_1.cells ∧ S + 6 + 0 ≤ room_1.slots := ⟨by show K + 1 + 0 ≤ 601024; omega, by show S + 6 + 0 ≤ 7293034; omega⟩
  unfold lf_8 at hf
  refine lv_aload_n hx hb d_Law_law_765 rfl (lv_at hl 3 rfl) ?_
  refine lv_aload_n hx hb d_Law_law_766 rfl (lv_at hl 4 rfl) ?_
  refine lv_iload hx hb d_Law_law_767 (lv_at hl 0 rfl) ?_
  refine lv_iconst (v := 1) hx hb d_Law_law_769 (by decide) ?_
  refine lv_iadd hx hb d_Law_law_770 ?_
  obtain ⟨h771_224, hf⟩ := sm_of_gd hf
  refine va_sld hx hb hX hbl hbA hG.2 h771_224 d_Law_law_771 ?_
  refine lv_aload_n hx hb d_Law_law_772 rfl (lv_at hl 1 rfl) ?_
  obtain ⟨r773_226, M773_227, o773_228, hc773_225, hf⟩ := sm_of_b3 hf
  refine ca_Law_92 hC hK hG (c_Law_stretch hfl hc773_225) hl.1 ⟨Nat.le_of_ble_eq_true rfl, Nat.le_of_ble_eq_true rfl⟩ hk1 (Nat.le_of_ble_eq_true rfl) d_Law_law_773 (fun H locs hG => ?_)
  refine lv_istore hx hb d_Law_law_776 hl (Nat.le_of_ble_eq_true rfl) rfl (fun ls hl => ?_)
  have hl : lv_has ls 7 [(5, .int r773_226), (4, .int w4), (3, .ref (sm_a v 90)), (2, .ref (sm_a v 68)), (1, .ref (sm_a v 0)), (0, .ref b)] := hl
  refine lv_aload_n hx hb d_Law_law_778 rfl (lv_at hl 3 rfl) ?_
  refine lv_aload_n hx hb d_Law_law_779 rfl (lv_at hl 5 rfl) ?_
  refine lv_iload hx hb d_Law_law_780 (lv_at hl 1 rfl) ?_
  refine lv_iconst (v := 1) hx hb d_Law_law_782 (by decide) ?_
  refine lv_iadd hx hb d_Law_law_783 ?_
  obtain ⟨h784_229, hf⟩ := sm_of_gd hf
  refine va_sld hx hb hX hbl hbA hG.2 h784_229 d_Law_law_784 ?_
  obtain ⟨r785_231, M785_232, hc785_230, hf⟩ := sm_of_b2 hf
  refine ca_Law_94 hC hK hG (c_Model_stretch hc785_230) hl.1 ⟨Nat.le_of_ble_eq_true rfl, Nat.le_of_ble_eq_true rfl⟩ hk2 (Nat.le_of_ble_eq_true rfl) d_Law_law_785 (fun H locs hG => ?_)
  refine lv_istore hx hb d_Law_law_788 hl (Nat.le_of_ble_eq_true rfl) rfl (fun ls hl => ?_)
  have hl : lv_has ls 7 [(6, .int r785_231), (5, .int r773_226), (4, .int w4), (3, .ref (sm_a v 90)), (2, .ref (sm_a v 68)), (1, .ref (sm_a v 0)), (0, .ref b)] := hl
  refine lv_aload_n hx hb d_Law_law_790 rfl (lv_at hl 4 rfl) ?_
  obtain ⟨r791_235, hc791_234, hf⟩ := sm_of_b1 hf
  refine ca_Law_62 hC hK hG (c_Model_thrown hc791_234) hl.1 ⟨Nat.le_of_ble_eq_true rfl, Nat.le_of_ble_eq_true rfl⟩ hk2 (Nat.le_of_ble_eq_true rfl) d_Law_law_791 ?_
  refine lv_iload hx hb d_Law_law_794 (lv_at hl 1 rfl) ?_
  refine lv_icmp_eq hx hb d_Law_law_796 rfl (fun h796_238 => ?_) (fun h796_238 => ?_)
  · have hf := sm_t h796_238 hf
    refine lv_iload hx hb d_Law_law_801 (lv_at hl 1 rfl) ?_
    refine lv_if_ne hx hb d_Law_law_803 rfl (fun h803_239 => ?_) (fun h803_239 => ?_)
    · have hf := sm_f h803_239 hf
      refine lv_goto hx hb d_Law_law_818 rfl ?_
      refine lv_iinc (v := w4 + (7 : Int32)) (k := 2) hx hb d_Law_law_1083 hl rfl rfl (Nat.le_of_ble_eq_true rfl) rfl (fun ls hl => ?_)
      have hl : lv_has ls 7 [(4, .int (w4 + (7 : Int32))), (6, .int r785_231), (5, .int r773_226), (3, .ref (sm_a v 90)), (2, .ref (sm_a v 68)), (1, .ref (sm_a v 0)), (0, .ref b)] := hl
      refine lv_goto hx hb d_Law_law_1086 rfl ?_
      refine W.widen (k := K + 1) (n := S + 6) (by omega) (by omega) ?_
      exact ih _ _ _ (K + 1) (S + 6) _ _ ls (by omega) (by omega) hG (lv_sub hl [0, 3, 4, 5, 6] rfl) hf
    · have hf := sm_t h803_239 hf
      refine lv_aload_n hx hb d_Law_law_806 rfl (lv_at hl 3 rfl) ?_
      refine lv_iconst (v := 0) hx hb d_Law_law_807 (by decide) ?_
      refine sm_lald hC hK hG sm_in0 d_Law_law_808 ?_
      refine lv_iload hx hb d_Law_law_809 (lv_at hl 0 rfl) ?_
      refine lv_i2l hx hb d_Law_law_811 rfl ?_
      refine W.lcmp hx hb d_Law_law_812 ?_
      refine lv_if_eq hx hb d_Law_law_813 rfl (fun h813_240 => ?_) (fun h813_240 => ?_)
      · have hf := sm_t h813_240 hf
        refine lv_goto hx hb d_Law_law_818 rfl ?_
        refine lv_iinc (v := w4 + (7 : Int32)) (k := 2) hx hb d_Law_law_1083 hl rfl rfl (Nat.le_of_ble_eq_true rfl) rfl (fun ls hl => ?_)
        have hl : lv_has ls 7 [(4, .int (w4 + (7 : Int32))), (6, .int r785_231), (5, .int r773_226), (3, .ref (sm_a v 90)), (2, .ref (sm_a v 68)), (1, .ref (sm_a v 0)), (0, .ref b)] := hl
        refine lv_goto hx hb d_Law_law_1086 rfl ?_
        refine W.widen (k := K + 1) (n := S + 6) (by omega) (by omega) ?_
        exact ih _ _ _ (K + 1) (S + 6) _ _ ls (by omega) (by omega) hG (lv_sub hl [0, 3, 4, 5, 6] rfl) hf
      · have hf := sm_f h813_240 hf
        exact absurd (Option.some.inj hf) (by decide)
  · have hf := sm_f h796_238 hf
    exact absurd (Option.some.inj hf) (by decide)
set_option maxHeartbeats 4000000 in
set_option maxRecDepth 100000 in
theorem lc_9 {p : Program} {l : Launch} {e : Env} {s : State} {m : MethodId} {below : List Frame} {meth : Method} {c : Code} {v : sm_V} {w0 : Cond} {b L : Nat} {xs : Nat → Int32} (hfl : l.flags = pinnedFlags ++ [noTraceFlag]) (hC : CallFix p m c code 7 s #[Value.ref b] (w0 :: sm_AW) R_Law) (hr : meth.sig.returnType = ret) (hlk : meth.locks = false) (hK : sm_K v s) (hX : va_X b L xs s s.heap) (hbl : b < s.heap.size) (hbA : ¬ sm_A v b) (hv : v.2.1 = s.heap.size) (n : Nat) {rec : sm_M → sm_O → Int32 → Option Int32} (ih : ∀ (M : sm_M) (o : sm_O) (w4 : Int32) (K S : Nat) (H : Heap) (locs : List Loc) (ls : Array Slot), K + n ≤ 601024 → S + 6 * n ≤ 7293034 → sm_G v M o s H locs → lv_has ls 7 [(4, .int w4), (3, .ref (sm_a v 90)), (2, .ref (sm_a v 68)), (1, .ref (sm_a v 0)), (0, .ref b)] → rec M o w4 = some 1 → W p l e room_1 s m #[Value.ref b] below meth c H locs K S (lw_Z below #[Value.ref b] s) (F0 m 23 ls [])) (M : sm_M) (o : sm_O) (w4 : Int32) (K S : Nat) {H : Heap} {locs : List Loc} {ls : Array Slot} (hKn : K + (n + 1) ≤ 601024) (hSn : S + 6 * (n + 1) ≤ 7293034) (hG : sm_G v M o s H locs) (hl : lv_has ls 7 [(4, .int w4), (3, .ref (sm_a v 90)), (2, .ref (sm_a v 68)), (1, .ref (sm_a v 0)), (0, .ref b)]) (hf : lf_9 L xs rec M o w4 = some 1) : W p l e room_1 s m #[Value.ref b] below meth c H locs K S (lw_Z below #[Value.ref b] s) (F0 m 821 ls []) := by
  have hx := hC.1
  have hb := hC.2.1
  have hk0 : K + 0 ≤ room_1.cells ∧ S + 0 ≤ room_1.slots := ⟨by show K + 0 ≤ 601024; omega, by show S + 0 ≤ 7293034; omega⟩
  have hk1 : K + 1 ≤ room_1.cells ∧ S + 6 ≤ room_1.slots := ⟨by show K + 1 ≤ 601024; omega, by show S + 6 ≤ 7293034; omega⟩
  have hk2 : K + 1 + 0 ≤ room_1.cells ∧ S + 6 + 0 ≤ room_1.slots := ⟨by show K + 1 + 0 ≤ 601024; omega, by show S + 6 + 0 ≤ 7293034; omega⟩
  unfold lf_9 at hf
  refine lv_aload_n hx hb d_Law_law_821 rfl (lv_at hl 3 rfl) ?_
  obtain ⟨r822_243, M822_244, hc822_242, hf⟩ := sm_of_b2 hf
  refine ca_Law_95 hC hK hG (c_Mill_read hc822_242) hl.1 ⟨Nat.le_of_ble_eq_true rfl, Nat.le_of_ble_eq_true rfl⟩ hk0 (Nat.le_of_ble_eq_true rfl) d_Law_law_822 (fun H locs hG => ?_)
  refine lv_aload_n hx hb d_Law_law_825 rfl (lv_at hl 2 rfl) ?_
  obtain ⟨r826_247, M826_248, hc826_246, hf⟩ := sm_of_b2 hf
  refine ca_Law_98 hC hK hG (c_Model_read hc826_246) hl.1 ⟨Nat.le_of_ble_eq_true rfl, Nat.le_of_ble_eq_true rfl⟩ hk0 (Nat.le_of_ble_eq_true rfl) d_Law_law_826 (fun H locs hG => ?_)
  refine lv_icmp_eq hx hb d_Law_law_829 rfl (fun h829_250 => ?_) (fun h829_250 => ?_)
  · have hf := sm_t h829_250 hf
    refine lv_iinc (v := w4 + (7 : Int32)) (k := 0) hx hb d_Law_law_1083 hl rfl rfl (Nat.le_of_ble_eq_true rfl) rfl (fun ls hl => ?_)
    have hl : lv_has ls 7 [(4, .int (w4 + (7 : Int32))), (3, .ref (sm_a v 90)), (2, .ref (sm_a v 68)), (1, .ref (sm_a v 0)), (0, .ref b)] := hl
    refine lv_goto hx hb d_Law_law_1086 rfl ?_
    refine W.widen (k := K + 1) (n := S + 6) (by omega) (by omega) ?_
    exact ih _ _ _ (K + 1) (S + 6) _ _ ls (by omega) (by omega) hG (lv_sub hl [0, 1, 2, 3, 4] rfl) hf
  · have hf := sm_f h829_250 hf
    exact absurd (Option.some.inj hf) (by decide)
set_option maxHeartbeats 4000000 in
set_option maxRecDepth 100000 in
theorem lc_10 {p : Program} {l : Launch} {e : Env} {s : State} {m : MethodId} {below : List Frame} {meth : Method} {c : Code} {v : sm_V} {w0 : Cond} {b L : Nat} {xs : Nat → Int32} (hfl : l.flags = pinnedFlags ++ [noTraceFlag]) (hC : CallFix p m c code 7 s #[Value.ref b] (w0 :: sm_AW) R_Law) (hr : meth.sig.returnType = ret) (hlk : meth.locks = false) (hK : sm_K v s) (hX : va_X b L xs s s.heap) (hbl : b < s.heap.size) (hbA : ¬ sm_A v b) (hv : v.2.1 = s.heap.size) (n : Nat) {rec : sm_M → sm_O → Int32 → Option Int32} (ih : ∀ (M : sm_M) (o : sm_O) (w4 : Int32) (K S : Nat) (H : Heap) (locs : List Loc) (ls : Array Slot), K + n ≤ 601024 → S + 6 * n ≤ 7293034 → sm_G v M o s H locs → lv_has ls 7 [(4, .int w4), (3, .ref (sm_a v 90)), (2, .ref (sm_a v 68)), (1, .ref (sm_a v 0)), (0, .ref b)] → rec M o w4 = some 1 → W p l e room_1 s m #[Value.ref b] below meth c H locs K S (lw_Z below #[Value.ref b] s) (F0 m 23 ls [])) (M : sm_M) (o : sm_O) (w4 : Int32) (K S : Nat) {H : Heap} {locs : List Loc} {ls : Array Slot} (hKn : K + (n + 1) ≤ 601024) (hSn : S + 6 * (n + 1) ≤ 7293034) (hG : sm_G v M o s H locs) (hl : lv_has ls 7 [(4, .int w4), (3, .ref (sm_a v 90)), (2, .ref (sm_a v 68)), (1, .ref (sm_a v 0)), (0, .ref b)]) (hf : lf_10 L xs rec M o w4 = some 1) : W p l e room_1 s m #[Value.ref b] below meth c H locs K S (lw_Z below #[Value.ref b] s) (F0 m 834 ls []) := by
  have hx := hC.1
  have hb := hC.2.1
  have hk0 : K + 0 ≤ room_1.cells ∧ S + 0 ≤ room_1.slots := ⟨by show K + 0 ≤ 601024; omega, by show S + 0 ≤ 7293034; omega⟩
  have hk1 : K + 1 ≤ room_1.cells ∧ S + 6 ≤ room_1.slots := ⟨by show K + 1 ≤ 601024; omega, by show S + 6 ≤ 7293034; omega⟩
  have hk2 : K + 1 + 0 ≤ room_1.cells ∧ S + 6 + 0 ≤ room_1.slots := ⟨by show K + 1 + 0 ≤ 601024; omega, by show S + 6 + 0 ≤ 7293034; omega⟩
  unfold lf_10 at hf
  refine lv_aload_n hx hb d_Law_law_834 rfl (lv_at hl 3 rfl) ?_
  refine lv_aload_n hx hb d_Law_law_835 rfl (lv_at hl 4 rfl) ?_
  refine lv_iload hx hb d_Law_law_836 (lv_at hl 0 rfl) ?_
  refine lv_iconst (v := 1) hx hb d_Law_law_838 (by decide) ?_
  refine lv_iadd hx hb d_Law_law_839 ?_
  obtain ⟨h840_252, hf⟩ := sm_of_gd hf
  refine va_sld hx hb hX hbl hbA hG.2 h840_252 d_Law_law_840 ?_
  refine lv_aload_n hx hb d_Law_law_841 rfl (lv_at hl 1 rfl) ?_
  obtain ⟨r842_254, M842_255, o842_256, hc842_253, hf⟩ := sm_of_b3 hf
  refine ca_Law_99 hC hK hG (c_Law_run hfl hc842_253) hl.1 ⟨Nat.le_of_ble_eq_true rfl, Nat.le_of_ble_eq_true rfl⟩ hk1 (Nat.le_of_ble_eq_true rfl) d_Law_law_842 (fun H locs hG => ?_)
  refine lv_istore hx hb d_Law_law_845 hl (Nat.le_of_ble_eq_true rfl) rfl (fun ls hl => ?_)
  have hl : lv_has ls 7 [(5, .int r842_254), (4, .int w4), (3, .ref (sm_a v 90)), (2, .ref (sm_a v 68)), (1, .ref (sm_a v 0)), (0, .ref b)] := hl
  refine lv_aload_n hx hb d_Law_law_847 rfl (lv_at hl 3 rfl) ?_
  refine lv_aload_n hx hb d_Law_law_848 rfl (lv_at hl 5 rfl) ?_
  refine lv_iload hx hb d_Law_law_849 (lv_at hl 1 rfl) ?_
  refine lv_iconst (v := 1) hx hb d_Law_law_851 (by decide) ?_
  refine lv_iadd hx hb d_Law_law_852 ?_
  obtain ⟨h853_257, hf⟩ := sm_of_gd hf
  refine va_sld hx hb hX hbl hbA hG.2 h853_257 d_Law_law_853 ?_
  obtain ⟨r854_259, M854_260, hc854_258, hf⟩ := sm_of_b2 hf
  refine ca_Law_101 hC hK hG (c_Model_run hc854_258) hl.1 ⟨Nat.le_of_ble_eq_true rfl, Nat.le_of_ble_eq_true rfl⟩ hk2 (Nat.le_of_ble_eq_true rfl) d_Law_law_854 (fun H locs hG => ?_)
  refine lv_istore hx hb d_Law_law_857 hl (Nat.le_of_ble_eq_true rfl) rfl (fun ls hl => ?_)
  have hl : lv_has ls 7 [(6, .int r854_259), (5, .int r842_254), (4, .int w4), (3, .ref (sm_a v 90)), (2, .ref (sm_a v 68)), (1, .ref (sm_a v 0)), (0, .ref b)] := hl
  refine lv_aload_n hx hb d_Law_law_859 rfl (lv_at hl 4 rfl) ?_
  obtain ⟨r860_263, hc860_262, hf⟩ := sm_of_b1 hf
  refine ca_Law_62 hC hK hG (c_Model_thrown hc860_262) hl.1 ⟨Nat.le_of_ble_eq_true rfl, Nat.le_of_ble_eq_true rfl⟩ hk2 (Nat.le_of_ble_eq_true rfl) d_Law_law_860 ?_
  refine lv_iload hx hb d_Law_law_863 (lv_at hl 1 rfl) ?_
  refine lv_icmp_eq hx hb d_Law_law_865 rfl (fun h865_266 => ?_) (fun h865_266 => ?_)
  · have hf := sm_t h865_266 hf
    refine lv_iload hx hb d_Law_law_870 (lv_at hl 1 rfl) ?_
    refine lv_if_ne hx hb d_Law_law_872 rfl (fun h872_267 => ?_) (fun h872_267 => ?_)
    · have hf := sm_f h872_267 hf
      refine lv_goto hx hb d_Law_law_887 rfl ?_
      refine lv_iinc (v := w4 + (7 : Int32)) (k := 2) hx hb d_Law_law_1083 hl rfl rfl (Nat.le_of_ble_eq_true rfl) rfl (fun ls hl => ?_)
      have hl : lv_has ls 7 [(4, .int (w4 + (7 : Int32))), (6, .int r854_259), (5, .int r842_254), (3, .ref (sm_a v 90)), (2, .ref (sm_a v 68)), (1, .ref (sm_a v 0)), (0, .ref b)] := hl
      refine lv_goto hx hb d_Law_law_1086 rfl ?_
      refine W.widen (k := K + 1) (n := S + 6) (by omega) (by omega) ?_
      exact ih _ _ _ (K + 1) (S + 6) _ _ ls (by omega) (by omega) hG (lv_sub hl [0, 3, 4, 5, 6] rfl) hf
    · have hf := sm_t h872_267 hf
      refine lv_aload_n hx hb d_Law_law_875 rfl (lv_at hl 3 rfl) ?_
      refine lv_iconst (v := 0) hx hb d_Law_law_876 (by decide) ?_
      refine sm_lald hC hK hG sm_in0 d_Law_law_877 ?_
      refine lv_iload hx hb d_Law_law_878 (lv_at hl 0 rfl) ?_
      refine lv_i2l hx hb d_Law_law_880 rfl ?_
      refine W.lcmp hx hb d_Law_law_881 ?_
      refine lv_if_eq hx hb d_Law_law_882 rfl (fun h882_268 => ?_) (fun h882_268 => ?_)
      · have hf := sm_t h882_268 hf
        refine lv_goto hx hb d_Law_law_887 rfl ?_
        refine lv_iinc (v := w4 + (7 : Int32)) (k := 2) hx hb d_Law_law_1083 hl rfl rfl (Nat.le_of_ble_eq_true rfl) rfl (fun ls hl => ?_)
        have hl : lv_has ls 7 [(4, .int (w4 + (7 : Int32))), (6, .int r854_259), (5, .int r842_254), (3, .ref (sm_a v 90)), (2, .ref (sm_a v 68)), (1, .ref (sm_a v 0)), (0, .ref b)] := hl
        refine lv_goto hx hb d_Law_law_1086 rfl ?_
        refine W.widen (k := K + 1) (n := S + 6) (by omega) (by omega) ?_
        exact ih _ _ _ (K + 1) (S + 6) _ _ ls (by omega) (by omega) hG (lv_sub hl [0, 3, 4, 5, 6] rfl) hf
      · have hf := sm_f h882_268 hf
        exact absurd (Option.some.inj hf) (by decide)
  · have hf := sm_f h865_266 hf
    exact absurd (Option.some.inj hf) (by decide)
set_option maxHeartbeats 4000000 in
set_option maxRecDepth 100000 in
theorem lc_11 {p : Program} {l : Launch} {e : Env} {s : State} {m : MethodId} {below : List Frame} {meth : Method} {c : Code} {v : sm_V} {w0 : Cond} {b L : Nat} {xs : Nat → Int32} (hfl : l.flags = pinnedFlags ++ [noTraceFlag]) (hC : CallFix p m c code 7 s #[Value.ref b] (w0 :: sm_AW) R_Law) (hr : meth.sig.returnType = ret) (hlk : meth.locks = false) (hK : sm_K v s) (hX : va_X b L xs s s.heap) (hbl : b < s.heap.size) (hbA : ¬ sm_A v b) (hv : v.2.1 = s.heap.size) (n : Nat) {rec : sm_M → sm_O → Int32 → Option Int32} (ih : ∀ (M : sm_M) (o : sm_O) (w4 : Int32) (K S : Nat) (H : Heap) (locs : List Loc) (ls : Array Slot), K + n ≤ 601024 → S + 6 * n ≤ 7293034 → sm_G v M o s H locs → lv_has ls 7 [(4, .int w4), (3, .ref (sm_a v 90)), (2, .ref (sm_a v 68)), (1, .ref (sm_a v 0)), (0, .ref b)] → rec M o w4 = some 1 → W p l e room_1 s m #[Value.ref b] below meth c H locs K S (lw_Z below #[Value.ref b] s) (F0 m 23 ls [])) (M : sm_M) (o : sm_O) (w4 : Int32) (K S : Nat) {H : Heap} {locs : List Loc} {ls : Array Slot} (hKn : K + (n + 1) ≤ 601024) (hSn : S + 6 * (n + 1) ≤ 7293034) (hG : sm_G v M o s H locs) (hl : lv_has ls 7 [(4, .int w4), (3, .ref (sm_a v 90)), (2, .ref (sm_a v 68)), (1, .ref (sm_a v 0)), (0, .ref b)]) (hf : lf_11 L xs rec M o w4 = some 1) : W p l e room_1 s m #[Value.ref b] below meth c H locs K S (lw_Z below #[Value.ref b] s) (F0 m 890 ls []) := by
  have hx := hC.1
  have hb := hC.2.1
  have hk0 : K + 0 ≤ room_1.cells ∧ S + 0 ≤ room_1.slots := ⟨by show K + 0 ≤ 601024; omega, by show S + 0 ≤ 7293034; omega⟩
  have hk1 : K + 1 ≤ room_1.cells ∧ S + 6 ≤ room_1.slots := ⟨by show K + 1 ≤ 601024; omega, by show S + 6 ≤ 7293034; omega⟩
  have hk2 : K + 1 + 0 ≤ room_1.cells ∧ S + 6 + 0 ≤ room_1.slots := ⟨by show K + 1 + 0 ≤ 601024; omega, by show S + 6 + 0 ≤ 7293034; omega⟩
  unfold lf_11 at hf
  refine lv_aload_n hx hb d_Law_law_890 rfl (lv_at hl 3 rfl) ?_
  refine lv_aload_n hx hb d_Law_law_891 rfl (lv_at hl 4 rfl) ?_
  refine lv_iload hx hb d_Law_law_892 (lv_at hl 0 rfl) ?_
  refine lv_iconst (v := 1) hx hb d_Law_law_894 (by decide) ?_
  refine lv_iadd hx hb d_Law_law_895 ?_
  obtain ⟨h896_270, hf⟩ := sm_of_gd hf
  refine va_sld hx hb hX hbl hbA hG.2 h896_270 d_Law_law_896 ?_
  obtain ⟨r897_272, hc897_271, hf⟩ := sm_of_b1 hf
  refine ca_Law_102 hC hK hG (c_Mill_value hc897_271) hl.1 ⟨Nat.le_of_ble_eq_true rfl, Nat.le_of_ble_eq_true rfl⟩ hk0 (Nat.le_of_ble_eq_true rfl) d_Law_law_897 ?_
  refine lv_aload_n hx hb d_Law_law_900 rfl (lv_at hl 2 rfl) ?_
  refine lv_aload_n hx hb d_Law_law_901 rfl (lv_at hl 4 rfl) ?_
  refine lv_iload hx hb d_Law_law_902 (lv_at hl 0 rfl) ?_
  refine lv_iconst (v := 1) hx hb d_Law_law_904 (by decide) ?_
  refine lv_iadd hx hb d_Law_law_905 ?_
  obtain ⟨h906_275, hf⟩ := sm_of_gd hf
  refine va_sld hx hb hX hbl hbA hG.2 h906_275 d_Law_law_906 ?_
  obtain ⟨r907_277, M907_278, hc907_276, hf⟩ := sm_of_b2 hf
  refine ca_Law_105 hC hK hG (c_Model_value hc907_276) hl.1 ⟨Nat.le_of_ble_eq_true rfl, Nat.le_of_ble_eq_true rfl⟩ hk0 (Nat.le_of_ble_eq_true rfl) d_Law_law_907 (fun H locs hG => ?_)
  refine lv_icmp_eq hx hb d_Law_law_910 rfl (fun h910_280 => ?_) (fun h910_280 => ?_)
  · have hf := sm_t h910_280 hf
    refine lv_iinc (v := w4 + (7 : Int32)) (k := 0) hx hb d_Law_law_1083 hl rfl rfl (Nat.le_of_ble_eq_true rfl) rfl (fun ls hl => ?_)
    have hl : lv_has ls 7 [(4, .int (w4 + (7 : Int32))), (3, .ref (sm_a v 90)), (2, .ref (sm_a v 68)), (1, .ref (sm_a v 0)), (0, .ref b)] := hl
    refine lv_goto hx hb d_Law_law_1086 rfl ?_
    refine W.widen (k := K + 1) (n := S + 6) (by omega) (by omega) ?_
    exact ih _ _ _ (K + 1) (S + 6) _ _ ls (by omega) (by omega) hG (lv_sub hl [0, 1, 2, 3, 4] rfl) hf
  · have hf := sm_f h910_280 hf
    exact absurd (Option.some.inj hf) (by decide)
set_option maxHeartbeats 4000000 in
set_option maxRecDepth 100000 in
theorem lc_12 {p : Program} {l : Launch} {e : Env} {s : State} {m : MethodId} {below : List Frame} {meth : Method} {c : Code} {v : sm_V} {w0 : Cond} {b L : Nat} {xs : Nat → Int32} (hfl : l.flags = pinnedFlags ++ [noTraceFlag]) (hC : CallFix p m c code 7 s #[Value.ref b] (w0 :: sm_AW) R_Law) (hr : meth.sig.returnType = ret) (hlk : meth.locks = false) (hK : sm_K v s) (hX : va_X b L xs s s.heap) (hbl : b < s.heap.size) (hbA : ¬ sm_A v b) (hv : v.2.1 = s.heap.size) (n : Nat) {rec : sm_M → sm_O → Int32 → Option Int32} (ih : ∀ (M : sm_M) (o : sm_O) (w4 : Int32) (K S : Nat) (H : Heap) (locs : List Loc) (ls : Array Slot), K + n ≤ 601024 → S + 6 * n ≤ 7293034 → sm_G v M o s H locs → lv_has ls 7 [(4, .int w4), (3, .ref (sm_a v 90)), (2, .ref (sm_a v 68)), (1, .ref (sm_a v 0)), (0, .ref b)] → rec M o w4 = some 1 → W p l e room_1 s m #[Value.ref b] below meth c H locs K S (lw_Z below #[Value.ref b] s) (F0 m 23 ls [])) (M : sm_M) (o : sm_O) (w4 : Int32) (K S : Nat) {H : Heap} {locs : List Loc} {ls : Array Slot} (hKn : K + (n + 1) ≤ 601024) (hSn : S + 6 * (n + 1) ≤ 7293034) (hG : sm_G v M o s H locs) (hl : lv_has ls 7 [(4, .int w4), (3, .ref (sm_a v 90)), (2, .ref (sm_a v 68)), (1, .ref (sm_a v 0)), (0, .ref b)]) (hf : lf_12 L xs rec M o w4 = some 1) : W p l e room_1 s m #[Value.ref b] below meth c H locs K S (lw_Z below #[Value.ref b] s) (F0 m 915 ls []) := by
  have hx := hC.1
  have hb := hC.2.1
  have hk0 : K + 0 ≤ room_1.cells ∧ S + 0 ≤ room_1.slots := ⟨by show K + 0 ≤ 601024; omega, by show S + 0 ≤ 7293034; omega⟩
  have hk1 : K + 1 ≤ room_1.cells ∧ S + 6 ≤ room_1.slots := ⟨by show K + 1 ≤ 601024; omega, by show S + 6 ≤ 7293034; omega⟩
  have hk2 : K + 1 + 0 ≤ room_1.cells ∧ S + 6 + 0 ≤ room_1.slots := ⟨by show K + 1 + 0 ≤ 601024; omega, by show S + 6 + 0 ≤ 7293034; omega⟩
  unfold lf_12 at hf
  refine lv_aload_n hx hb d_Law_law_915 rfl (lv_at hl 3 rfl) ?_
  refine lv_aload_n hx hb d_Law_law_916 rfl (lv_at hl 4 rfl) ?_
  refine lv_iload hx hb d_Law_law_917 (lv_at hl 0 rfl) ?_
  refine lv_iconst (v := 1) hx hb d_Law_law_919 (by decide) ?_
  refine lv_iadd hx hb d_Law_law_920 ?_
  obtain ⟨h921_282, hf⟩ := sm_of_gd hf
  refine va_sld hx hb hX hbl hbA hG.2 h921_282 d_Law_law_921 ?_
  obtain ⟨r922_284, hc922_283, hf⟩ := sm_of_b1 hf
  refine ca_Law_106 hC hK hG (c_Mill_register hc922_283) hl.1 ⟨Nat.le_of_ble_eq_true rfl, Nat.le_of_ble_eq_true rfl⟩ hk0 (Nat.le_of_ble_eq_true rfl) d_Law_law_922 ?_
  refine lv_aload_n hx hb d_Law_law_925 rfl (lv_at hl 2 rfl) ?_
  refine lv_aload_n hx hb d_Law_law_926 rfl (lv_at hl 4 rfl) ?_
  refine lv_iload hx hb d_Law_law_927 (lv_at hl 0 rfl) ?_
  refine lv_iconst (v := 1) hx hb d_Law_law_929 (by decide) ?_
  refine lv_iadd hx hb d_Law_law_930 ?_
  obtain ⟨h931_287, hf⟩ := sm_of_gd hf
  refine va_sld hx hb hX hbl hbA hG.2 h931_287 d_Law_law_931 ?_
  obtain ⟨r932_289, M932_290, hc932_288, hf⟩ := sm_of_b2 hf
  refine ca_Law_109 hC hK hG (c_Model_register hc932_288) hl.1 ⟨Nat.le_of_ble_eq_true rfl, Nat.le_of_ble_eq_true rfl⟩ hk0 (Nat.le_of_ble_eq_true rfl) d_Law_law_932 (fun H locs hG => ?_)
  refine lv_icmp_eq hx hb d_Law_law_935 rfl (fun h935_292 => ?_) (fun h935_292 => ?_)
  · have hf := sm_t h935_292 hf
    refine lv_iinc (v := w4 + (7 : Int32)) (k := 0) hx hb d_Law_law_1083 hl rfl rfl (Nat.le_of_ble_eq_true rfl) rfl (fun ls hl => ?_)
    have hl : lv_has ls 7 [(4, .int (w4 + (7 : Int32))), (3, .ref (sm_a v 90)), (2, .ref (sm_a v 68)), (1, .ref (sm_a v 0)), (0, .ref b)] := hl
    refine lv_goto hx hb d_Law_law_1086 rfl ?_
    refine W.widen (k := K + 1) (n := S + 6) (by omega) (by omega) ?_
    exact ih _ _ _ (K + 1) (S + 6) _ _ ls (by omega) (by omega) hG (lv_sub hl [0, 1, 2, 3, 4] rfl) hf
  · have hf := sm_f h935_292 hf
    exact absurd (Option.some.inj hf) (by decide)
set_option maxHeartbeats 4000000 in
set_option maxRecDepth 100000 in
theorem lc_13 {p : Program} {l : Launch} {e : Env} {s : State} {m : MethodId} {below : List Frame} {meth : Method} {c : Code} {v : sm_V} {w0 : Cond} {b L : Nat} {xs : Nat → Int32} (hfl : l.flags = pinnedFlags ++ [noTraceFlag]) (hC : CallFix p m c code 7 s #[Value.ref b] (w0 :: sm_AW) R_Law) (hr : meth.sig.returnType = ret) (hlk : meth.locks = false) (hK : sm_K v s) (hX : va_X b L xs s s.heap) (hbl : b < s.heap.size) (hbA : ¬ sm_A v b) (hv : v.2.1 = s.heap.size) (n : Nat) {rec : sm_M → sm_O → Int32 → Option Int32} (ih : ∀ (M : sm_M) (o : sm_O) (w4 : Int32) (K S : Nat) (H : Heap) (locs : List Loc) (ls : Array Slot), K + n ≤ 601024 → S + 6 * n ≤ 7293034 → sm_G v M o s H locs → lv_has ls 7 [(4, .int w4), (3, .ref (sm_a v 90)), (2, .ref (sm_a v 68)), (1, .ref (sm_a v 0)), (0, .ref b)] → rec M o w4 = some 1 → W p l e room_1 s m #[Value.ref b] below meth c H locs K S (lw_Z below #[Value.ref b] s) (F0 m 23 ls [])) (M : sm_M) (o : sm_O) (w4 : Int32) (K S : Nat) {H : Heap} {locs : List Loc} {ls : Array Slot} (hKn : K + (n + 1) ≤ 601024) (hSn : S + 6 * (n + 1) ≤ 7293034) (hG : sm_G v M o s H locs) (hl : lv_has ls 7 [(4, .int w4), (3, .ref (sm_a v 90)), (2, .ref (sm_a v 68)), (1, .ref (sm_a v 0)), (0, .ref b)]) (hf : lf_13 L xs rec M o w4 = some 1) : W p l e room_1 s m #[Value.ref b] below meth c H locs K S (lw_Z below #[Value.ref b] s) (F0 m 940 ls []) := by
  have hx := hC.1
  have hb := hC.2.1
  have hk0 : K + 0 ≤ room_1.cells ∧ S + 0 ≤ room_1.slots := ⟨by show K + 0 ≤ 601024; omega, by show S + 0 ≤ 7293034; omega⟩
  have hk1 : K + 1 ≤ room_1.cells ∧ S + 6 ≤ room_1.slots := ⟨by show K + 1 ≤ 601024; omega, by show S + 6 ≤ 7293034; omega⟩
  have hk2 : K + 1 + 0 ≤ room_1.cells ∧ S + 6 + 0 ≤ room_1.slots := ⟨by show K + 1 + 0 ≤ 601024; omega, by show S + 6 + 0 ≤ 7293034; omega⟩
  unfold lf_13 at hf
  refine lv_aload_n hx hb d_Law_law_940 rfl (lv_at hl 3 rfl) ?_
  refine lv_aload_n hx hb d_Law_law_941 rfl (lv_at hl 4 rfl) ?_
  refine lv_iload hx hb d_Law_law_942 (lv_at hl 0 rfl) ?_
  refine lv_iconst (v := 1) hx hb d_Law_law_944 (by decide) ?_
  refine lv_iadd hx hb d_Law_law_945 ?_
  obtain ⟨h946_294, hf⟩ := sm_of_gd hf
  refine va_sld hx hb hX hbl hbA hG.2 h946_294 d_Law_law_946 ?_
  refine lv_aload_n hx hb d_Law_law_947 rfl (lv_at hl 1 rfl) ?_
  obtain ⟨r948_296, M948_297, o948_298, hc948_295, hf⟩ := sm_of_b3 hf
  refine ca_Law_110 hC hK hG (c_Law_memory hfl hc948_295) hl.1 ⟨Nat.le_of_ble_eq_true rfl, Nat.le_of_ble_eq_true rfl⟩ hk1 (Nat.le_of_ble_eq_true rfl) d_Law_law_948 (fun H locs hG => ?_)
  refine lv_istore hx hb d_Law_law_951 hl (Nat.le_of_ble_eq_true rfl) rfl (fun ls hl => ?_)
  have hl : lv_has ls 7 [(5, .int r948_296), (4, .int w4), (3, .ref (sm_a v 90)), (2, .ref (sm_a v 68)), (1, .ref (sm_a v 0)), (0, .ref b)] := hl
  refine lv_aload_n hx hb d_Law_law_953 rfl (lv_at hl 3 rfl) ?_
  refine lv_aload_n hx hb d_Law_law_954 rfl (lv_at hl 5 rfl) ?_
  refine lv_iload hx hb d_Law_law_955 (lv_at hl 1 rfl) ?_
  refine lv_iconst (v := 1) hx hb d_Law_law_957 (by decide) ?_
  refine lv_iadd hx hb d_Law_law_958 ?_
  obtain ⟨h959_299, hf⟩ := sm_of_gd hf
  refine va_sld hx hb hX hbl hbA hG.2 h959_299 d_Law_law_959 ?_
  obtain ⟨r960_301, M960_302, hc960_300, hf⟩ := sm_of_b2 hf
  refine ca_Law_112 hC hK hG (c_Model_memory hc960_300) hl.1 ⟨Nat.le_of_ble_eq_true rfl, Nat.le_of_ble_eq_true rfl⟩ hk2 (Nat.le_of_ble_eq_true rfl) d_Law_law_960 (fun H locs hG => ?_)
  refine lv_istore hx hb d_Law_law_963 hl (Nat.le_of_ble_eq_true rfl) rfl (fun ls hl => ?_)
  have hl : lv_has ls 7 [(6, .int r960_301), (5, .int r948_296), (4, .int w4), (3, .ref (sm_a v 90)), (2, .ref (sm_a v 68)), (1, .ref (sm_a v 0)), (0, .ref b)] := hl
  refine lv_aload_n hx hb d_Law_law_965 rfl (lv_at hl 4 rfl) ?_
  obtain ⟨r966_305, hc966_304, hf⟩ := sm_of_b1 hf
  refine ca_Law_62 hC hK hG (c_Model_thrown hc966_304) hl.1 ⟨Nat.le_of_ble_eq_true rfl, Nat.le_of_ble_eq_true rfl⟩ hk2 (Nat.le_of_ble_eq_true rfl) d_Law_law_966 ?_
  refine lv_iload hx hb d_Law_law_969 (lv_at hl 1 rfl) ?_
  refine lv_icmp_eq hx hb d_Law_law_971 rfl (fun h971_308 => ?_) (fun h971_308 => ?_)
  · have hf := sm_t h971_308 hf
    refine lv_iload hx hb d_Law_law_976 (lv_at hl 1 rfl) ?_
    refine lv_if_ne hx hb d_Law_law_978 rfl (fun h978_309 => ?_) (fun h978_309 => ?_)
    · have hf := sm_f h978_309 hf
      refine lv_goto hx hb d_Law_law_993 rfl ?_
      refine lv_iinc (v := w4 + (7 : Int32)) (k := 2) hx hb d_Law_law_1083 hl rfl rfl (Nat.le_of_ble_eq_true rfl) rfl (fun ls hl => ?_)
      have hl : lv_has ls 7 [(4, .int (w4 + (7 : Int32))), (6, .int r960_301), (5, .int r948_296), (3, .ref (sm_a v 90)), (2, .ref (sm_a v 68)), (1, .ref (sm_a v 0)), (0, .ref b)] := hl
      refine lv_goto hx hb d_Law_law_1086 rfl ?_
      refine W.widen (k := K + 1) (n := S + 6) (by omega) (by omega) ?_
      exact ih _ _ _ (K + 1) (S + 6) _ _ ls (by omega) (by omega) hG (lv_sub hl [0, 3, 4, 5, 6] rfl) hf
    · have hf := sm_t h978_309 hf
      refine lv_aload_n hx hb d_Law_law_981 rfl (lv_at hl 3 rfl) ?_
      refine lv_iconst (v := 0) hx hb d_Law_law_982 (by decide) ?_
      refine sm_lald hC hK hG sm_in0 d_Law_law_983 ?_
      refine lv_iload hx hb d_Law_law_984 (lv_at hl 0 rfl) ?_
      refine lv_i2l hx hb d_Law_law_986 rfl ?_
      refine W.lcmp hx hb d_Law_law_987 ?_
      refine lv_if_eq hx hb d_Law_law_988 rfl (fun h988_310 => ?_) (fun h988_310 => ?_)
      · have hf := sm_t h988_310 hf
        refine lv_goto hx hb d_Law_law_993 rfl ?_
        refine lv_iinc (v := w4 + (7 : Int32)) (k := 2) hx hb d_Law_law_1083 hl rfl rfl (Nat.le_of_ble_eq_true rfl) rfl (fun ls hl => ?_)
        have hl : lv_has ls 7 [(4, .int (w4 + (7 : Int32))), (6, .int r960_301), (5, .int r948_296), (3, .ref (sm_a v 90)), (2, .ref (sm_a v 68)), (1, .ref (sm_a v 0)), (0, .ref b)] := hl
        refine lv_goto hx hb d_Law_law_1086 rfl ?_
        refine W.widen (k := K + 1) (n := S + 6) (by omega) (by omega) ?_
        exact ih _ _ _ (K + 1) (S + 6) _ _ ls (by omega) (by omega) hG (lv_sub hl [0, 3, 4, 5, 6] rfl) hf
      · have hf := sm_f h988_310 hf
        exact absurd (Option.some.inj hf) (by decide)
  · have hf := sm_f h971_308 hf
    exact absurd (Option.some.inj hf) (by decide)
set_option maxHeartbeats 4000000 in
set_option maxRecDepth 100000 in
theorem lc_14 {p : Program} {l : Launch} {e : Env} {s : State} {m : MethodId} {below : List Frame} {meth : Method} {c : Code} {v : sm_V} {w0 : Cond} {b L : Nat} {xs : Nat → Int32} (hfl : l.flags = pinnedFlags ++ [noTraceFlag]) (hC : CallFix p m c code 7 s #[Value.ref b] (w0 :: sm_AW) R_Law) (hr : meth.sig.returnType = ret) (hlk : meth.locks = false) (hK : sm_K v s) (hX : va_X b L xs s s.heap) (hbl : b < s.heap.size) (hbA : ¬ sm_A v b) (hv : v.2.1 = s.heap.size) (n : Nat) {rec : sm_M → sm_O → Int32 → Option Int32} (ih : ∀ (M : sm_M) (o : sm_O) (w4 : Int32) (K S : Nat) (H : Heap) (locs : List Loc) (ls : Array Slot), K + n ≤ 601024 → S + 6 * n ≤ 7293034 → sm_G v M o s H locs → lv_has ls 7 [(4, .int w4), (3, .ref (sm_a v 90)), (2, .ref (sm_a v 68)), (1, .ref (sm_a v 0)), (0, .ref b)] → rec M o w4 = some 1 → W p l e room_1 s m #[Value.ref b] below meth c H locs K S (lw_Z below #[Value.ref b] s) (F0 m 23 ls [])) (M : sm_M) (o : sm_O) (w4 : Int32) (K S : Nat) {H : Heap} {locs : List Loc} {ls : Array Slot} (hKn : K + (n + 1) ≤ 601024) (hSn : S + 6 * (n + 1) ≤ 7293034) (hG : sm_G v M o s H locs) (hl : lv_has ls 7 [(4, .int w4), (3, .ref (sm_a v 90)), (2, .ref (sm_a v 68)), (1, .ref (sm_a v 0)), (0, .ref b)]) (hf : lf_14 L xs rec M o w4 = some 1) : W p l e room_1 s m #[Value.ref b] below meth c H locs K S (lw_Z below #[Value.ref b] s) (F0 m 996 ls []) := by
  have hx := hC.1
  have hb := hC.2.1
  have hk0 : K + 0 ≤ room_1.cells ∧ S + 0 ≤ room_1.slots := ⟨by show K + 0 ≤ 601024; omega, by show S + 0 ≤ 7293034; omega⟩
  have hk1 : K + 1 ≤ room_1.cells ∧ S + 6 ≤ room_1.slots := ⟨by show K + 1 ≤ 601024; omega, by show S + 6 ≤ 7293034; omega⟩
  have hk2 : K + 1 + 0 ≤ room_1.cells ∧ S + 6 + 0 ≤ room_1.slots := ⟨by show K + 1 + 0 ≤ 601024; omega, by show S + 6 + 0 ≤ 7293034; omega⟩
  unfold lf_14 at hf
  refine lv_aload_n hx hb d_Law_law_996 rfl (lv_at hl 3 rfl) ?_
  refine lv_aload_n hx hb d_Law_law_997 rfl (lv_at hl 4 rfl) ?_
  refine lv_iload hx hb d_Law_law_998 (lv_at hl 0 rfl) ?_
  refine lv_iconst (v := 1) hx hb d_Law_law_1000 (by decide) ?_
  refine lv_iadd hx hb d_Law_law_1001 ?_
  obtain ⟨h1002_312, hf⟩ := sm_of_gd hf
  refine va_sld hx hb hX hbl hbA hG.2 h1002_312 d_Law_law_1002 ?_
  obtain ⟨r1003_314, hc1003_313, hf⟩ := sm_of_b1 hf
  refine ca_Law_113 hC hK hG (c_Mill_shown hc1003_313) hl.1 ⟨Nat.le_of_ble_eq_true rfl, Nat.le_of_ble_eq_true rfl⟩ hk0 (Nat.le_of_ble_eq_true rfl) d_Law_law_1003 ?_
  refine lv_aload_n hx hb d_Law_law_1006 rfl (lv_at hl 2 rfl) ?_
  refine lv_aload_n hx hb d_Law_law_1007 rfl (lv_at hl 4 rfl) ?_
  refine lv_iload hx hb d_Law_law_1008 (lv_at hl 0 rfl) ?_
  refine lv_iconst (v := 1) hx hb d_Law_law_1010 (by decide) ?_
  refine lv_iadd hx hb d_Law_law_1011 ?_
  obtain ⟨h1012_317, hf⟩ := sm_of_gd hf
  refine va_sld hx hb hX hbl hbA hG.2 h1012_317 d_Law_law_1012 ?_
  obtain ⟨r1013_319, M1013_320, hc1013_318, hf⟩ := sm_of_b2 hf
  refine ca_Law_116 hC hK hG (c_Model_shown hc1013_318) hl.1 ⟨Nat.le_of_ble_eq_true rfl, Nat.le_of_ble_eq_true rfl⟩ hk0 (Nat.le_of_ble_eq_true rfl) d_Law_law_1013 (fun H locs hG => ?_)
  refine lv_icmp_eq hx hb d_Law_law_1016 rfl (fun h1016_322 => ?_) (fun h1016_322 => ?_)
  · have hf := sm_t h1016_322 hf
    refine lv_iinc (v := w4 + (7 : Int32)) (k := 0) hx hb d_Law_law_1083 hl rfl rfl (Nat.le_of_ble_eq_true rfl) rfl (fun ls hl => ?_)
    have hl : lv_has ls 7 [(4, .int (w4 + (7 : Int32))), (3, .ref (sm_a v 90)), (2, .ref (sm_a v 68)), (1, .ref (sm_a v 0)), (0, .ref b)] := hl
    refine lv_goto hx hb d_Law_law_1086 rfl ?_
    refine W.widen (k := K + 1) (n := S + 6) (by omega) (by omega) ?_
    exact ih _ _ _ (K + 1) (S + 6) _ _ ls (by omega) (by omega) hG (lv_sub hl [0, 1, 2, 3, 4] rfl) hf
  · have hf := sm_f h1016_322 hf
    exact absurd (Option.some.inj hf) (by decide)
set_option maxHeartbeats 4000000 in
set_option maxRecDepth 100000 in
theorem lc_15 {p : Program} {l : Launch} {e : Env} {s : State} {m : MethodId} {below : List Frame} {meth : Method} {c : Code} {v : sm_V} {w0 : Cond} {b L : Nat} {xs : Nat → Int32} (hfl : l.flags = pinnedFlags ++ [noTraceFlag]) (hC : CallFix p m c code 7 s #[Value.ref b] (w0 :: sm_AW) R_Law) (hr : meth.sig.returnType = ret) (hlk : meth.locks = false) (hK : sm_K v s) (hX : va_X b L xs s s.heap) (hbl : b < s.heap.size) (hbA : ¬ sm_A v b) (hv : v.2.1 = s.heap.size) (n : Nat) {rec : sm_M → sm_O → Int32 → Option Int32} (ih : ∀ (M : sm_M) (o : sm_O) (w4 : Int32) (K S : Nat) (H : Heap) (locs : List Loc) (ls : Array Slot), K + n ≤ 601024 → S + 6 * n ≤ 7293034 → sm_G v M o s H locs → lv_has ls 7 [(4, .int w4), (3, .ref (sm_a v 90)), (2, .ref (sm_a v 68)), (1, .ref (sm_a v 0)), (0, .ref b)] → rec M o w4 = some 1 → W p l e room_1 s m #[Value.ref b] below meth c H locs K S (lw_Z below #[Value.ref b] s) (F0 m 23 ls [])) (M : sm_M) (o : sm_O) (w4 : Int32) (K S : Nat) {H : Heap} {locs : List Loc} {ls : Array Slot} (hKn : K + (n + 1) ≤ 601024) (hSn : S + 6 * (n + 1) ≤ 7293034) (hG : sm_G v M o s H locs) (hl : lv_has ls 7 [(4, .int w4), (3, .ref (sm_a v 90)), (2, .ref (sm_a v 68)), (1, .ref (sm_a v 0)), (0, .ref b)]) (hf : lf_15 L xs rec M o w4 = some 1) : W p l e room_1 s m #[Value.ref b] below meth c H locs K S (lw_Z below #[Value.ref b] s) (F0 m 1021 ls []) := by
  have hx := hC.1
  have hb := hC.2.1
  have hk0 : K + 0 ≤ room_1.cells ∧ S + 0 ≤ room_1.slots := ⟨by show K + 0 ≤ 601024; omega, by show S + 0 ≤ 7293034; omega⟩
  have hk1 : K + 1 ≤ room_1.cells ∧ S + 6 ≤ room_1.slots := ⟨by show K + 1 ≤ 601024; omega, by show S + 6 ≤ 7293034; omega⟩
  have hk2 : K + 1 + 0 ≤ room_1.cells ∧ S + 6 + 0 ≤ room_1.slots := ⟨by show K + 1 + 0 ≤ 601024; omega, by show S + 6 + 0 ≤ 7293034; omega⟩
  unfold lf_15 at hf
  refine lv_aload_n hx hb d_Law_law_1021 rfl (lv_at hl 3 rfl) ?_
  refine lv_aload_n hx hb d_Law_law_1022 rfl (lv_at hl 4 rfl) ?_
  refine lv_iload hx hb d_Law_law_1023 (lv_at hl 0 rfl) ?_
  refine lv_iconst (v := 1) hx hb d_Law_law_1025 (by decide) ?_
  refine lv_iadd hx hb d_Law_law_1026 ?_
  obtain ⟨h1027_324, hf⟩ := sm_of_gd hf
  refine va_sld hx hb hX hbl hbA hG.2 h1027_324 d_Law_law_1027 ?_
  obtain ⟨r1028_326, hc1028_325, hf⟩ := sm_of_b1 hf
  refine ca_Law_117 hC hK hG (c_Mill_about hc1028_325) hl.1 ⟨Nat.le_of_ble_eq_true rfl, Nat.le_of_ble_eq_true rfl⟩ hk0 (Nat.le_of_ble_eq_true rfl) d_Law_law_1028 ?_
  refine lv_aload_n hx hb d_Law_law_1031 rfl (lv_at hl 2 rfl) ?_
  refine lv_aload_n hx hb d_Law_law_1032 rfl (lv_at hl 4 rfl) ?_
  refine lv_iload hx hb d_Law_law_1033 (lv_at hl 0 rfl) ?_
  refine lv_iconst (v := 1) hx hb d_Law_law_1035 (by decide) ?_
  refine lv_iadd hx hb d_Law_law_1036 ?_
  obtain ⟨h1037_329, hf⟩ := sm_of_gd hf
  refine va_sld hx hb hX hbl hbA hG.2 h1037_329 d_Law_law_1037 ?_
  obtain ⟨r1038_331, M1038_332, hc1038_330, hf⟩ := sm_of_b2 hf
  refine ca_Law_120 hC hK hG (c_Model_about hc1038_330) hl.1 ⟨Nat.le_of_ble_eq_true rfl, Nat.le_of_ble_eq_true rfl⟩ hk0 (Nat.le_of_ble_eq_true rfl) d_Law_law_1038 (fun H locs hG => ?_)
  refine lv_icmp_eq hx hb d_Law_law_1041 rfl (fun h1041_334 => ?_) (fun h1041_334 => ?_)
  · have hf := sm_t h1041_334 hf
    refine lv_iinc (v := w4 + (7 : Int32)) (k := 0) hx hb d_Law_law_1083 hl rfl rfl (Nat.le_of_ble_eq_true rfl) rfl (fun ls hl => ?_)
    have hl : lv_has ls 7 [(4, .int (w4 + (7 : Int32))), (3, .ref (sm_a v 90)), (2, .ref (sm_a v 68)), (1, .ref (sm_a v 0)), (0, .ref b)] := hl
    refine lv_goto hx hb d_Law_law_1086 rfl ?_
    refine W.widen (k := K + 1) (n := S + 6) (by omega) (by omega) ?_
    exact ih _ _ _ (K + 1) (S + 6) _ _ ls (by omega) (by omega) hG (lv_sub hl [0, 1, 2, 3, 4] rfl) hf
  · have hf := sm_f h1041_334 hf
    exact absurd (Option.some.inj hf) (by decide)
set_option maxHeartbeats 4000000 in
set_option maxRecDepth 100000 in
theorem lc_16 {p : Program} {l : Launch} {e : Env} {s : State} {m : MethodId} {below : List Frame} {meth : Method} {c : Code} {v : sm_V} {w0 : Cond} {b L : Nat} {xs : Nat → Int32} (hfl : l.flags = pinnedFlags ++ [noTraceFlag]) (hC : CallFix p m c code 7 s #[Value.ref b] (w0 :: sm_AW) R_Law) (hr : meth.sig.returnType = ret) (hlk : meth.locks = false) (hK : sm_K v s) (hX : va_X b L xs s s.heap) (hbl : b < s.heap.size) (hbA : ¬ sm_A v b) (hv : v.2.1 = s.heap.size) (n : Nat) {rec : sm_M → sm_O → Int32 → Option Int32} (ih : ∀ (M : sm_M) (o : sm_O) (w4 : Int32) (K S : Nat) (H : Heap) (locs : List Loc) (ls : Array Slot), K + n ≤ 601024 → S + 6 * n ≤ 7293034 → sm_G v M o s H locs → lv_has ls 7 [(4, .int w4), (3, .ref (sm_a v 90)), (2, .ref (sm_a v 68)), (1, .ref (sm_a v 0)), (0, .ref b)] → rec M o w4 = some 1 → W p l e room_1 s m #[Value.ref b] below meth c H locs K S (lw_Z below #[Value.ref b] s) (F0 m 23 ls [])) (M : sm_M) (o : sm_O) (w4 : Int32) (K S : Nat) {H : Heap} {locs : List Loc} {ls : Array Slot} (hKn : K + (n + 1) ≤ 601024) (hSn : S + 6 * (n + 1) ≤ 7293034) (hG : sm_G v M o s H locs) (hl : lv_has ls 7 [(4, .int w4), (3, .ref (sm_a v 90)), (2, .ref (sm_a v 68)), (1, .ref (sm_a v 0)), (0, .ref b)]) (hf : lf_16 L xs rec M o w4 = some 1) : W p l e room_1 s m #[Value.ref b] below meth c H locs K S (lw_Z below #[Value.ref b] s) (F0 m 1046 ls []) := by
  have hx := hC.1
  have hb := hC.2.1
  have hk0 : K + 0 ≤ room_1.cells ∧ S + 0 ≤ room_1.slots := ⟨by show K + 0 ≤ 601024; omega, by show S + 0 ≤ 7293034; omega⟩
  have hk1 : K + 1 ≤ room_1.cells ∧ S + 6 ≤ room_1.slots := ⟨by show K + 1 ≤ 601024; omega, by show S + 6 ≤ 7293034; omega⟩
  have hk2 : K + 1 + 0 ≤ room_1.cells ∧ S + 6 + 0 ≤ room_1.slots := ⟨by show K + 1 + 0 ≤ 601024; omega, by show S + 6 + 0 ≤ 7293034; omega⟩
  unfold lf_16 at hf
  refine lv_aload_n hx hb d_Law_law_1046 rfl (lv_at hl 3 rfl) ?_
  refine lv_aload_n hx hb d_Law_law_1047 rfl (lv_at hl 4 rfl) ?_
  refine lv_iload hx hb d_Law_law_1048 (lv_at hl 0 rfl) ?_
  refine lv_iconst (v := 1) hx hb d_Law_law_1050 (by decide) ?_
  refine lv_iadd hx hb d_Law_law_1051 ?_
  obtain ⟨h1052_336, hf⟩ := sm_of_gd hf
  refine va_sld hx hb hX hbl hbA hG.2 h1052_336 d_Law_law_1052 ?_
  refine lv_aload_n hx hb d_Law_law_1053 rfl (lv_at hl 4 rfl) ?_
  refine lv_iload hx hb d_Law_law_1054 (lv_at hl 0 rfl) ?_
  refine lv_iconst (v := 2) hx hb d_Law_law_1056 (by decide) ?_
  refine lv_iadd hx hb d_Law_law_1057 ?_
  obtain ⟨h1058_337, hf⟩ := sm_of_gd hf
  refine va_sld hx hb hX hbl hbA hG.2 h1058_337 d_Law_law_1058 ?_
  obtain ⟨r1059_339, hc1059_338, hf⟩ := sm_of_b1 hf
  refine ca_Law_121 hC hK hG (c_Mill_object hc1059_338) hl.1 ⟨Nat.le_of_ble_eq_true rfl, Nat.le_of_ble_eq_true rfl⟩ hk0 (Nat.le_of_ble_eq_true rfl) d_Law_law_1059 ?_
  refine lv_aload_n hx hb d_Law_law_1062 rfl (lv_at hl 2 rfl) ?_
  refine lv_aload_n hx hb d_Law_law_1063 rfl (lv_at hl 4 rfl) ?_
  refine lv_iload hx hb d_Law_law_1064 (lv_at hl 0 rfl) ?_
  refine lv_iconst (v := 1) hx hb d_Law_law_1066 (by decide) ?_
  refine lv_iadd hx hb d_Law_law_1067 ?_
  obtain ⟨h1068_342, hf⟩ := sm_of_gd hf
  refine va_sld hx hb hX hbl hbA hG.2 h1068_342 d_Law_law_1068 ?_
  refine lv_aload_n hx hb d_Law_law_1069 rfl (lv_at hl 4 rfl) ?_
  refine lv_iload hx hb d_Law_law_1070 (lv_at hl 0 rfl) ?_
  refine lv_iconst (v := 2) hx hb d_Law_law_1072 (by decide) ?_
  refine lv_iadd hx hb d_Law_law_1073 ?_
  obtain ⟨h1074_343, hf⟩ := sm_of_gd hf
  refine va_sld hx hb hX hbl hbA hG.2 h1074_343 d_Law_law_1074 ?_
  obtain ⟨r1075_345, M1075_346, hc1075_344, hf⟩ := sm_of_b2 hf
  refine ca_Law_124 hC hK hG (c_Model_object hc1075_344) hl.1 ⟨Nat.le_of_ble_eq_true rfl, Nat.le_of_ble_eq_true rfl⟩ hk0 (Nat.le_of_ble_eq_true rfl) d_Law_law_1075 (fun H locs hG => ?_)
  refine lv_icmp_eq hx hb d_Law_law_1078 rfl (fun h1078_348 => ?_) (fun h1078_348 => ?_)
  · have hf := sm_t h1078_348 hf
    refine lv_iinc (v := w4 + (7 : Int32)) (k := 0) hx hb d_Law_law_1083 hl rfl rfl (Nat.le_of_ble_eq_true rfl) rfl (fun ls hl => ?_)
    have hl : lv_has ls 7 [(4, .int (w4 + (7 : Int32))), (3, .ref (sm_a v 90)), (2, .ref (sm_a v 68)), (1, .ref (sm_a v 0)), (0, .ref b)] := hl
    refine lv_goto hx hb d_Law_law_1086 rfl ?_
    refine W.widen (k := K + 1) (n := S + 6) (by omega) (by omega) ?_
    exact ih _ _ _ (K + 1) (S + 6) _ _ ls (by omega) (by omega) hG (lv_sub hl [0, 1, 2, 3, 4] rfl) hf
  · have hf := sm_f h1078_348 hf
    exact absurd (Option.some.inj hf) (by decide)
set_option maxHeartbeats 4000000 in
set_option maxRecDepth 100000 in
theorem lw_Law {p : Program} {l : Launch} {e : Env} {s : State} {m : MethodId} {below : List Frame} {meth : Method} {c : Code} {v : sm_V} {w0 : Cond} {b L : Nat} {xs : Nat → Int32} (hfl : l.flags = pinnedFlags ++ [noTraceFlag]) (hC : CallFix p m c code 7 s #[Value.ref b] (w0 :: sm_AW) R_Law) (hr : meth.sig.returnType = ret) (hlk : meth.locks = false) (hK : sm_K v s) (hX : va_X b L xs s s.heap) (hbl : b < s.heap.size) (hbA : ¬ sm_A v b) (hv : v.2.1 = s.heap.size) :
    ∀ (n : Nat) (M : sm_M) (o : sm_O) (w4 : Int32) (K S : Nat) (H : Heap) (locs : List Loc) (ls : Array Slot), K + n ≤ 601024 → S + 6 * n ≤ 7293034 → sm_G v M o s H locs → lv_has ls 7 [(4, .int w4), (3, .ref (sm_a v 90)), (2, .ref (sm_a v 68)), (1, .ref (sm_a v 0)), (0, .ref b)] → sm_lp3 (g_Law L xs) n M o w4 = some 1 → W p l e room_1 s m #[Value.ref b] below meth c H locs K S (lw_Z below #[Value.ref b] s) (F0 m 23 ls []) := by
  intro n
  induction n with
  | zero =>
    intro M o w4 K S H locs ls hKn hSn hG hl hf
    cases hf
  | succ n ih =>
    intro M o w4 K S H locs ls hKn hSn hG hl hf
    have hf : g_Law L xs (sm_lp3 (g_Law L xs) n) M o w4 = some 1 := hf
    unfold g_Law at hf
    have hx := hC.1
    have hb := hC.2.1
    refine lv_iload hx hb d_Law_law_23 (lv_at hl 0 rfl) ?_
    refine lv_aload_n hx hb d_Law_law_25 rfl (lv_at hl 4 rfl) ?_
    refine va_slen hx hb hX hbl hbA hG.2 d_Law_law_26 ?_
    refine lv_bipush (v := 7) hx hb d_Law_law_27 (by decide) ?_
    refine lv_isub hx hb d_Law_law_29 ?_
    refine lv_icmp_gt hx hb d_Law_law_30 rfl (fun h30_1 => ?_) (fun h30_1 => ?_)
    · have hf := sm_t h30_1 hf
      refine lv_iconst (v := 1) hx hb d_Law_law_1089 (by decide) ?_
      refine va_forget (fun q hq => by have h9 : v.2.1 ≤ q.base := hG.2.2.2 q hq; rw [hv] at h9; exact h9) ?_
      refine W.widen (k := 601024) (n := 7293034) (by omega) (by omega) ?_
      exact lw_ret hx hb hr hlk d_Law_law_1090
    · have hf := sm_f h30_1 hf
      refine lv_aload_n hx hb d_Law_law_33 rfl (lv_at hl 4 rfl) ?_
      refine lv_iload hx hb d_Law_law_34 (lv_at hl 0 rfl) ?_
      obtain ⟨h36_2, hf⟩ := sm_of_gd hf
      refine va_sld hx hb hX hbl hbA hG.2 h36_2 d_Law_law_36 ?_
      refine lv_bipush (v := 31) hx hb d_Law_law_37 (by decide) ?_
      refine lv_iand hx hb d_Law_law_39 ?_
      refine lv_topi (fun x40_3 ex40_3 => ?_)
      have hf := sm_of ex40_3 hf
      by_cases h40_4 : x40_3 = 0
      · have hf := sm_t h40_4 hf
        refine lv_tableIn (tgt := 124) hx hb d_Law_law_40 (by rw [h40_4]; decide) (by rw [h40_4]; decide) (by rw [h40_4]; rfl) rfl ?_
        exact lc_0 hfl hC hr hlk hK hX hbl hbA hv n ih M o w4 K S hKn hSn hG hl hf
      have hf := sm_f h40_4 hf
      by_cases h40_30 : x40_3 = 1
      · have hf := sm_t h40_30 hf
        refine lv_tableIn (tgt := 228) hx hb d_Law_law_40 (by rw [h40_30]; decide) (by rw [h40_30]; decide) (by rw [h40_30]; rfl) rfl ?_
        exact lc_1 hfl hC hr hlk hK hX hbl hbA hv n ih M o w4 K S hKn hSn hG hl hf
      have hf := sm_f h40_30 hf
      by_cases h40_50 : x40_3 = 2
      · have hf := sm_t h40_50 hf
        refine lv_tableIn (tgt := 296) hx hb d_Law_law_40 (by rw [h40_50]; decide) (by rw [h40_50]; decide) (by rw [h40_50]; rfl) rfl ?_
        exact lc_2 hfl hC hr hlk hK hX hbl hbA hv n ih M o w4 K S hKn hSn hG hl hf
      have hf := sm_f h40_50 hf
      by_cases h40_121 : x40_3 = 3
      · have hf := sm_t h40_121 hf
        refine lv_tableIn (tgt := 416) hx hb d_Law_law_40 (by rw [h40_121]; decide) (by rw [h40_121]; decide) (by rw [h40_121]; rfl) rfl ?_
        exact lc_3 hfl hC hr hlk hK hX hbl hbA hv n ih M o w4 K S hKn hSn hG hl hf
      have hf := sm_f h40_121 hf
      by_cases h40_149 : x40_3 = 4
      · have hf := sm_t h40_149 hf
        refine lv_tableIn (tgt := 534) hx hb d_Law_law_40 (by rw [h40_149]; decide) (by rw [h40_149]; decide) (by rw [h40_149]; rfl) rfl ?_
        exact lc_4 hfl hC hr hlk hK hX hbl hbA hv n ih M o w4 K S hKn hSn hG hl hf
      have hf := sm_f h40_149 hf
      by_cases h40_169 : x40_3 = 5
      · have hf := sm_t h40_169 hf
        refine lv_tableIn (tgt := 597) hx hb d_Law_law_40 (by rw [h40_169]; decide) (by rw [h40_169]; decide) (by rw [h40_169]; rfl) rfl ?_
        exact lc_5 hfl hC hr hlk hK hX hbl hbA hv n ih M o w4 K S hKn hSn hG hl hf
      have hf := sm_f h40_169 hf
      by_cases h40_189 : x40_3 = 6
      · have hf := sm_t h40_189 hf
        refine lv_tableIn (tgt := 665) hx hb d_Law_law_40 (by rw [h40_189]; decide) (by rw [h40_189]; decide) (by rw [h40_189]; rfl) rfl ?_
        exact lc_6 hfl hC hr hlk hK hX hbl hbA hv n ih M o w4 K S hKn hSn hG hl hf
      have hf := sm_f h40_189 hf
      by_cases h40_201 : x40_3 = 7
      · have hf := sm_t h40_201 hf
        refine lv_tableIn (tgt := 690) hx hb d_Law_law_40 (by rw [h40_201]; decide) (by rw [h40_201]; decide) (by rw [h40_201]; rfl) rfl ?_
        exact lc_7 hfl hC hr hlk hK hX hbl hbA hv n ih M o w4 K S hKn hSn hG hl hf
      have hf := sm_f h40_201 hf
      by_cases h40_223 : x40_3 = 8
      · have hf := sm_t h40_223 hf
        refine lv_tableIn (tgt := 765) hx hb d_Law_law_40 (by rw [h40_223]; decide) (by rw [h40_223]; decide) (by rw [h40_223]; rfl) rfl ?_
        exact lc_8 hfl hC hr hlk hK hX hbl hbA hv n ih M o w4 K S hKn hSn hG hl hf
      have hf := sm_f h40_223 hf
      by_cases h40_241 : x40_3 = 9
      · have hf := sm_t h40_241 hf
        refine lv_tableIn (tgt := 821) hx hb d_Law_law_40 (by rw [h40_241]; decide) (by rw [h40_241]; decide) (by rw [h40_241]; rfl) rfl ?_
        exact lc_9 hfl hC hr hlk hK hX hbl hbA hv n ih M o w4 K S hKn hSn hG hl hf
      have hf := sm_f h40_241 hf
      by_cases h40_251 : x40_3 = 10
      · have hf := sm_t h40_251 hf
        refine lv_tableIn (tgt := 834) hx hb d_Law_law_40 (by rw [h40_251]; decide) (by rw [h40_251]; decide) (by rw [h40_251]; rfl) rfl ?_
        exact lc_10 hfl hC hr hlk hK hX hbl hbA hv n ih M o w4 K S hKn hSn hG hl hf
      have hf := sm_f h40_251 hf
      by_cases h40_269 : x40_3 = 11
      · have hf := sm_t h40_269 hf
        refine lv_tableIn (tgt := 890) hx hb d_Law_law_40 (by rw [h40_269]; decide) (by rw [h40_269]; decide) (by rw [h40_269]; rfl) rfl ?_
        exact lc_11 hfl hC hr hlk hK hX hbl hbA hv n ih M o w4 K S hKn hSn hG hl hf
      have hf := sm_f h40_269 hf
      by_cases h40_281 : x40_3 = 12
      · have hf := sm_t h40_281 hf
        refine lv_tableIn (tgt := 915) hx hb d_Law_law_40 (by rw [h40_281]; decide) (by rw [h40_281]; decide) (by rw [h40_281]; rfl) rfl ?_
        exact lc_12 hfl hC hr hlk hK hX hbl hbA hv n ih M o w4 K S hKn hSn hG hl hf
      have hf := sm_f h40_281 hf
      by_cases h40_293 : x40_3 = 13
      · have hf := sm_t h40_293 hf
        refine lv_tableIn (tgt := 940) hx hb d_Law_law_40 (by rw [h40_293]; decide) (by rw [h40_293]; decide) (by rw [h40_293]; rfl) rfl ?_
        exact lc_13 hfl hC hr hlk hK hX hbl hbA hv n ih M o w4 K S hKn hSn hG hl hf
      have hf := sm_f h40_293 hf
      by_cases h40_311 : x40_3 = 14
      · have hf := sm_t h40_311 hf
        refine lv_tableIn (tgt := 996) hx hb d_Law_law_40 (by rw [h40_311]; decide) (by rw [h40_311]; decide) (by rw [h40_311]; rfl) rfl ?_
        exact lc_14 hfl hC hr hlk hK hX hbl hbA hv n ih M o w4 K S hKn hSn hG hl hf
      have hf := sm_f h40_311 hf
      by_cases h40_323 : x40_3 = 15
      · have hf := sm_t h40_323 hf
        refine lv_tableIn (tgt := 1021) hx hb d_Law_law_40 (by rw [h40_323]; decide) (by rw [h40_323]; decide) (by rw [h40_323]; rfl) rfl ?_
        exact lc_15 hfl hC hr hlk hK hX hbl hbA hv n ih M o w4 K S hKn hSn hG hl hf
      have hf := sm_f h40_323 hf
      by_cases h40_335 : x40_3 = 16
      · have hf := sm_t h40_335 hf
        refine lv_tableIn (tgt := 1046) hx hb d_Law_law_40 (by rw [h40_335]; decide) (by rw [h40_335]; decide) (by rw [h40_335]; rfl) rfl ?_
        exact lc_16 hfl hC hr hlk hK hX hbl hbA hv n ih M o w4 K S hKn hSn hG hl hf
      have hf := sm_f h40_335 hf
      refine lv_tableOut (tgt := 1083) hx hb d_Law_law_40 (by have := lv_neT (a := 0) h40_4 rfl; have := lv_neT (a := 1) h40_30 rfl; have := lv_neT (a := 2) h40_50 rfl; have := lv_neT (a := 3) h40_121 rfl; have := lv_neT (a := 4) h40_149 rfl; have := lv_neT (a := 5) h40_169 rfl; have := lv_neT (a := 6) h40_189 rfl; have := lv_neT (a := 7) h40_201 rfl; have := lv_neT (a := 8) h40_223 rfl; have := lv_neT (a := 9) h40_241 rfl; have := lv_neT (a := 10) h40_251 rfl; have := lv_neT (a := 11) h40_269 rfl; have := lv_neT (a := 12) h40_281 rfl; have := lv_neT (a := 13) h40_293 rfl; have := lv_neT (a := 14) h40_311 rfl; have := lv_neT (a := 15) h40_323 rfl; have := lv_neT (a := 16) h40_335 rfl; omega) rfl ?_
      refine lv_iinc (v := w4 + (7 : Int32)) (k := 0) hx hb d_Law_law_1083 hl rfl rfl (Nat.le_of_ble_eq_true rfl) rfl (fun ls hl => ?_)
      have hl : lv_has ls 7 [(4, .int (w4 + (7 : Int32))), (3, .ref (sm_a v 90)), (2, .ref (sm_a v 68)), (1, .ref (sm_a v 0)), (0, .ref b)] := hl
      refine lv_goto hx hb d_Law_law_1086 rfl ?_
      refine W.widen (k := K + 1) (n := S + 6) (by omega) (by omega) ?_
      exact ih _ _ _ (K + 1) (S + 6) _ _ ls (by omega) (by omega) hG (lv_sub hl [0, 1, 2, 3, 4] rfl) hf
