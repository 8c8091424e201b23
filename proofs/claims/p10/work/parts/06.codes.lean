set_option maxRecDepth 100000 in
theorem cw_i0 : cw_l [md_0, md_1, md_2, md_3, md_4, md_5, md_6, md_7, md_8, md_9, md_10, md_11, md_12, md_13, md_14, md_15] = cw_r [md_0, md_1, md_2, md_3, md_4, md_5, md_6, md_7, md_8, md_9, md_10, md_11, md_12, md_13, md_14, md_15] := rfl
set_option maxRecDepth 100000 in
theorem cw_i1 : cw_l [md_16, md_17, md_18, md_19, md_20, md_21, md_22, md_23, md_24, md_25, md_26, md_27, md_28, md_29, md_30, md_31] = cw_r [md_16, md_17, md_18, md_19, md_20, md_21, md_22, md_23, md_24, md_25, md_26, md_27, md_28, md_29, md_30, md_31] := rfl
set_option maxRecDepth 100000 in
theorem cw_i2 : cw_l [md_32, md_33, md_34, md_35, md_36, md_37, md_38, md_39, md_40, md_41, md_42, md_43, md_44, md_45, md_46, md_47] = cw_r [md_32, md_33, md_34, md_35, md_36, md_37, md_38, md_39, md_40, md_41, md_42, md_43, md_44, md_45, md_46, md_47] := rfl
set_option maxRecDepth 100000 in
theorem cw_i3 : cw_l [md_48, md_49, md_50, md_51, md_52, md_53, md_54, md_55, md_56, md_57, md_58, md_59, md_60, md_61, md_62, md_63] = cw_r [md_48, md_49, md_50, md_51, md_52, md_53, md_54, md_55, md_56, md_57, md_58, md_59, md_60, md_61, md_62, md_63] := rfl
set_option maxRecDepth 100000 in
theorem cw_i4 : cw_l [md_64, md_65, md_66, md_67, md_68, md_69, md_70, md_71, md_72, md_73, md_74, md_75, md_76, md_77, md_78, md_79] = cw_r [md_64, md_65, md_66, md_67, md_68, md_69, md_70, md_71, md_72, md_73, md_74, md_75, md_76, md_77, md_78, md_79] := rfl
set_option maxRecDepth 100000 in
theorem cw_i5 : cw_l [md_80, md_81, md_82, md_83, md_84, md_85, md_86, md_87, md_88, md_89, md_90, md_91, md_92, md_93, md_94, md_95] = cw_r [md_80, md_81, md_82, md_83, md_84, md_85, md_86, md_87, md_88, md_89, md_90, md_91, md_92, md_93, md_94, md_95] := rfl
set_option maxRecDepth 100000 in
theorem cw_i6 : cw_l [md_96, md_97, md_98, md_99, md_100, md_101, md_102, md_103, md_104, md_105, md_106, md_107, md_108, md_109, md_110, md_111] = cw_r [md_96, md_97, md_98, md_99, md_100, md_101, md_102, md_103, md_104, md_105, md_106, md_107, md_108, md_109, md_110, md_111] := rfl
set_option maxRecDepth 100000 in
theorem cw_i7 : cw_l [md_112, md_113, md_114, md_115, md_116, md_117, md_118, md_119, md_120, md_121, md_122, md_123, md_124, md_125, md_126, md_127] = cw_r [md_112, md_113, md_114, md_115, md_116, md_117, md_118, md_119, md_120, md_121, md_122, md_123, md_124, md_125, md_126, md_127] := rfl
set_option maxRecDepth 100000 in
theorem cw_i8 : cw_l [md_128, md_129, md_130, md_131, md_132, md_133, md_134, md_135, md_136, md_137, md_138, md_139, md_140, md_141, md_142, md_143] = cw_r [md_128, md_129, md_130, md_131, md_132, md_133, md_134, md_135, md_136, md_137, md_138, md_139, md_140, md_141, md_142, md_143] := rfl
set_option maxRecDepth 100000 in
theorem cw_i9 : cw_l [md_144, md_145, md_146, md_147, md_148, md_149, md_150, md_151, md_152, md_153, md_154, md_155, md_156, md_157, md_158, md_159] = cw_r [md_144, md_145, md_146, md_147, md_148, md_149, md_150, md_151, md_152, md_153, md_154, md_155, md_156, md_157, md_158, md_159] := rfl
set_option maxRecDepth 100000 in
theorem cw_i10 : cw_l [md_160, md_161, md_162, md_163, md_164, md_165, md_166, md_167, md_168, md_169, md_170, md_171, md_172, md_173, md_174, md_175] = cw_r [md_160, md_161, md_162, md_163, md_164, md_165, md_166, md_167, md_168, md_169, md_170, md_171, md_172, md_173, md_174, md_175] := rfl
set_option maxRecDepth 100000 in
theorem cw_i11 : cw_l [md_176, md_177, md_178, md_179, md_180, md_181, md_182, md_183, md_184, md_185, md_186, md_187, md_188, md_189, md_190, md_191] = cw_r [md_176, md_177, md_178, md_179, md_180, md_181, md_182, md_183, md_184, md_185, md_186, md_187, md_188, md_189, md_190, md_191] := rfl
set_option maxRecDepth 100000 in
theorem cw_i12 : cw_l [md_192, md_193, md_194, md_195, md_196, md_197, md_198, md_199, md_200, md_201, md_202, md_203, md_204, md_205, md_206, md_207] = cw_r [md_192, md_193, md_194, md_195, md_196, md_197, md_198, md_199, md_200, md_201, md_202, md_203, md_204, md_205, md_206, md_207] := rfl
set_option maxRecDepth 100000 in
theorem cw_i13 : cw_l [md_208, md_209, md_210, md_211, md_212, md_213, md_214, md_215, md_216, md_217, md_218, md_219, md_220, md_221, md_222, md_223] = cw_r [md_208, md_209, md_210, md_211, md_212, md_213, md_214, md_215, md_216, md_217, md_218, md_219, md_220, md_221, md_222, md_223] := rfl
set_option maxRecDepth 100000 in
theorem cw_i14 : cw_l [md_224, md_225, md_226, md_227, md_228, md_229, md_230, md_231, md_232, md_233, md_234, md_235, md_236, md_237, md_238, md_239] = cw_r [md_224, md_225, md_226, md_227, md_228, md_229, md_230, md_231, md_232, md_233, md_234, md_235, md_236, md_237, md_238, md_239] := rfl
set_option maxRecDepth 100000 in
theorem cw_i15 : cw_l [md_240, md_241, md_242, md_243, md_244, md_245, md_246, md_247, md_248, md_249, md_250, md_251, md_252, md_253, md_254, md_255] = cw_r [md_240, md_241, md_242, md_243, md_244, md_245, md_246, md_247, md_248, md_249, md_250, md_251, md_252, md_253, md_254, md_255] := rfl
set_option maxRecDepth 100000 in
theorem cw_i16 : cw_l [md_256, md_257, md_258, md_259, md_260, md_261, md_262, md_263, md_264, md_265, md_266, md_267, md_268, md_269, md_270, md_271] = cw_r [md_256, md_257, md_258, md_259, md_260, md_261, md_262, md_263, md_264, md_265, md_266, md_267, md_268, md_269, md_270, md_271] := rfl
set_option maxRecDepth 100000 in
theorem cw_i17 : cw_l [md_272, md_273, md_274, md_275, md_276, md_277, md_278, md_279, md_280, md_281, md_282, md_283, md_284, md_285, md_286, md_287] = cw_r [md_272, md_273, md_274, md_275, md_276, md_277, md_278, md_279, md_280, md_281, md_282, md_283, md_284, md_285, md_286, md_287] := rfl
set_option maxRecDepth 100000 in
theorem cw_i18 : cw_l [md_288, md_289, md_290, md_291, md_292, md_293, md_294, md_295, md_296, md_297, md_298, md_299, md_300, md_301, md_302, md_303] = cw_r [md_288, md_289, md_290, md_291, md_292, md_293, md_294, md_295, md_296, md_297, md_298, md_299, md_300, md_301, md_302, md_303] := rfl
set_option maxRecDepth 100000 in
theorem cw_i19 : cw_l [md_304, md_305, md_306, md_307, md_308, md_309, md_310, md_311, md_312, md_313, md_314, md_315, md_316, md_317, md_318, md_319] = cw_r [md_304, md_305, md_306, md_307, md_308, md_309, md_310, md_311, md_312, md_313, md_314, md_315, md_316, md_317, md_318, md_319] := rfl
set_option maxRecDepth 100000 in
theorem cw_i20 : cw_l [md_320, md_321, md_322, md_323, md_324, md_325, md_326, md_327, md_328, md_329, md_330, md_331, md_332, md_333, md_334, md_335] = cw_r [md_320, md_321, md_322, md_323, md_324, md_325, md_326, md_327, md_328, md_329, md_330, md_331, md_332, md_333, md_334, md_335] := rfl
set_option maxRecDepth 100000 in
theorem cw_i21 : cw_l [md_336, md_337, md_338, md_339, md_340, md_341, md_342, md_343, md_344, md_345] = cw_r [md_336, md_337, md_338, md_339, md_340, md_341, md_342, md_343, md_344, md_345] := rfl
